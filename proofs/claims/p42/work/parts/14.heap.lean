/-! The heap: what a list of shapes with its numbers and addresses is in the machine -/
def rf_ty (c : Nat) : Nat → FieldType := match c with
  | 0 => tyX0
  | 1 => tyX2
  | 2 => tyX3
  | 3 => tyX4
  | _ => tyX5
def rf_T (c : Nat) : u_T := match c with
  | 0 => TX0
  | 1 => TX2
  | 2 => TX3
  | 3 => TX4
  | _ => TX5
def rf_N (c : Nat) : Nat := match c with
  | 0 => 11
  | 1 => 1
  | 2 => 2
  | 3 => 12
  | _ => 17
def rf_R' (c : Nat) : String := match c with
  | 0 => RX0
  | 1 => RX2
  | 2 => RX3
  | 3 => RX4
  | _ => RX5
theorem rf_cl_at {c : Nat} (h : c < 5) : rf_cl[c]? = some (rf_R' c, rf_T c, rf_N c) := by
  rcases c with _ | _ | _ | _ | _ | c <;> first | rfl | omega
def rf_ra (t : FieldType) : Nat := match t with
  | .int => 0
  | .boolean => 3
  | .long => 1
  | .object _ => 2
  | .array _ => 2
  | _ => 9
theorem rf_sh_get (T : List rf_Sh) (k : Nat) : rf_sh T k = T[k]? := by
  induction T generalizing k with
  | nil => cases k <;> rfl
  | cons x t ih =>
    cases k with
    | zero => rfl
    | succ k => show rf_sh t k = _; rw [ih]; simp
theorem rf_sh_lt {T : List rf_Sh} {k : Nat} {x : rf_Sh} (h : rf_sh T k = some x) : k < T.length := by
  rw [rf_sh_get] at h
  exact (List.getElem?_eq_some_iff.mp h).1
section RFW
variable (ad : Nat → Nat) (cy : Nat → ClassId) (base : Nat)
def rf_fv (t : FieldType) (z : Int) (r : Option Nat) : Value := match rf_ra t with
  | 1 => .long (Int64.ofInt z)
  | 2 => va_rf (r.map ad)
  | _ => .int (Int32.ofInt z)
def rf_fs (c : Nat) (D : rf_D) (P : rf_P) (k : Nat) : List Value := (List.range (rf_N c)).map fun j => rf_fv ad (rf_ty c j) (D k j) (P k j)
def rf_en (D : rf_D) (P : rf_P) (k : Nat) (x : rf_Sh) : va_E := match x with
  | .inl c => .inr (c, rf_fs ad c D P k)
  | .inr (0, n) => .inl (cy 0, n, .inl fun j => Int32.ofInt (D k j))
  | .inr (1, n) => .inl (cy 1, n, .inl fun j => Int32.ofInt (D k j))
  | .inr (_, n) => .inl (cy 2, n, .inr (.inr (.inr (.inr fun j => (P k j).map ad))))
def rf_ws (h : rf_H) : va_W := h.1.mapIdx fun k x => (base + k, rf_en ad cy h.2.1 h.2.2.1 k x)
theorem rf_ws_get (h : rf_H) (k : Nat) : (rf_ws ad cy base h)[k]? = (rf_sh h.1 k).map fun x => (base + k, rf_en ad cy h.2.1 h.2.2.1 k x) := by
  unfold rf_ws
  rw [List.getElem?_mapIdx, rf_sh_get]
theorem rf_ws_len (h : rf_H) : (rf_ws ad cy base h).length = h.1.length := by
  unfold rf_ws
  rw [List.length_mapIdx]
theorem rf_ws_D {A : Nat → Prop} (hA : ∀ q, base ≤ q → A q) (h : rf_H) : va_D A (rf_ws ad cy base h) := by
  have key : ∀ (k : Nat) (q : Nat × va_E), (rf_ws ad cy base h)[k]? = some q → q.1 = base + k := by
    intro k q hq
    rw [rf_ws_get] at hq
    obtain ⟨x, -, rfl⟩ := Option.map_eq_some_iff.mp hq
    rfl
  refine ⟨fun i j p q hp hq e => ?_, fun k q hq => ?_⟩
  · have := key i p hp
    have := key j q hq
    omega
  · rw [key k q hq]
    exact hA _ (by omega)
/-- a change of one cell, the others as they were -/
theorem rf_ws_set {h h' : rf_H} {k : Nat} {x : rf_Sh} (hT : h'.1 = h.1) (hk : rf_sh h.1 k = some x) (ho : ∀ q j, q ≠ k → h'.2.1 q j = h.2.1 q j ∧ h'.2.2.1 q j = h.2.2.1 q j) {e : va_E} (he : e = rf_en ad cy h'.2.1 h'.2.2.1 k x) : (rf_ws ad cy base h).set k (base + k, e) = rf_ws ad cy base h' := by
  apply List.ext_getElem?
  intro i
  have hl : k < (rf_ws ad cy base h).length := by rw [rf_ws_len]; exact rf_sh_lt hk
  by_cases hi : i = k
  · subst hi
    rw [List.getElem?_set_self hl, rf_ws_get, hT, hk, he]
    rfl
  · rw [List.getElem?_set_ne (Ne.symm hi), rf_ws_get, rf_ws_get, hT]
    have e1 : h'.2.1 i = h.2.1 i := funext fun j => (ho i j hi).1
    have e2 : h'.2.2.1 i = h.2.2.1 i := funext fun j => (ho i j hi).2
    cases rf_sh h.1 i with
    | none => rfl
    | some y =>
      show some _ = some _
      rcases y with c | ⟨t, n⟩
      · simp only [rf_en, rf_fs, e1, e2]
      · rcases t with _ | _ | t <;> simp only [rf_en, e1, e2]
theorem rf_ws_new {h : rf_H} {x : rf_Sh} {e : va_E} (he : e = rf_en ad cy (rf_nw h x).2.1 (rf_nw h x).2.2.1 h.1.length x) : rf_ws ad cy base h ++ [(base + h.1.length, e)] = rf_ws ad cy base (rf_nw h x) := by
  apply List.ext_getElem?
  intro i
  rw [rf_ws_get]
  show _ = (rf_sh (h.1 ++ [x]) i).map _
  rw [rf_sh_get]
  rcases Nat.lt_trichotomy i h.1.length with q | q | q
  · rw [List.getElem?_append_left (by rw [rf_ws_len]; exact q), rf_ws_get, rf_sh_get, List.getElem?_append_left q]
    have hne : i ≠ h.1.length := by omega
    have e1 : (rf_nw h x).2.1 i = h.2.1 i := funext fun j => if_neg hne
    have e2 : (rf_nw h x).2.2.1 i = h.2.2.1 i := funext fun j => if_neg hne
    cases h.1[i]? with
    | none => rfl
    | some y =>
      show some _ = some _
      rcases y with c | ⟨t, n⟩
      · simp only [rf_en, rf_fs, e1, e2]
      · rcases t with _ | _ | t <;> simp only [rf_en, e1, e2]
  · subst q
    rw [List.getElem?_append_right (by rw [rf_ws_len]; exact Nat.le_refl _), rf_ws_len, List.getElem?_append_right (Nat.le_refl _), Nat.sub_self, he]
    rfl
  · rw [List.getElem?_append_right (by rw [rf_ws_len]; omega), rf_ws_len, List.getElem?_append_right (by omega)]
    have : 1 ≤ i - h.1.length := by omega
    rcases hh : i - h.1.length with _ | n
    · omega
    · rfl
end RFW
/-- the numbers of a cell are such as the machine holds -/
def rf_okC (x : rf_Sh) (f : Nat → Int) : Prop := match x with
  | .inl c => c < 5 ∧ ∀ j, j < rf_N c → match rf_ra (rf_ty c j) with
    | 1 => rf_o64 (f j)
    | 2 => True
    | _ => rf_o32 (f j)
  | .inr (0, n) => n ≤ 100000 ∧ ∀ j, j < n → rf_o32 (f j)
  | .inr (1, n) => n ≤ 100000 ∧ ∀ j, j < n → rf_o32 (f j)
  | .inr (_, n) => n ≤ 100000
def rf_okX (X : rf_X) : Prop := ∀ j, j < 3 → (X j).1 ≤ 100000 ∧ ∀ i, rf_o32 ((X j).2 i)
def rf_okH (h : rf_H) : Prop := (∀ k x, rf_sh h.1 k = some x → rf_okC x (h.2.1 k)) ∧ rf_okX h.2.2.2 ∧ h.1.length ≤ 1000000
def rf_szS (x : rf_Sh) : Nat := match x with
  | .inl c => rf_N c
  | .inr (_, n) => n
def rf_sz (T : List rf_Sh) : Nat := match T with
  | [] => 0
  | x :: t => rf_szS x + rf_sz t
theorem rf_sz_app (T : List rf_Sh) (x : rf_Sh) : rf_sz (T ++ [x]) = rf_sz T + rf_szS x := by
  induction T with
  | nil => simp [rf_sz]
  | cons y t ih => simp only [List.cons_append, rf_sz, ih]; omega
theorem rf_okH.upd {h : rf_H} {k i : Nat} {v : Int} (H : rf_okH h) {x : rf_Sh} (hk : rf_sh h.1 k = some x) (hx : ∀ f, rf_okC x f → rf_okC x (fun j => if j = i then v else f j)) : rf_okH (h.1, rf_up2 h.2.1 k i v, h.2.2) := by
  refine ⟨fun q y hq => ?_, H.2⟩
  have h0 := H.1 q y hq
  by_cases e : q = k
  · subst e
    cases hk.symm.trans hq
    have e1 : (fun j => rf_up2 h.2.1 q i v q j) = fun j => if j = i then v else h.2.1 q j := by
      funext j
      unfold rf_up2
      by_cases e2 : j = i <;> simp [e2]
    show rf_okC x (rf_up2 h.2.1 q i v q)
    rw [show rf_up2 h.2.1 q i v q = fun j => if j = i then v else h.2.1 q j from e1]
    exact hx _ h0
  · have e1 : rf_up2 h.2.1 k i v q = h.2.1 q := by
      funext j
      unfold rf_up2
      simp [e]
    show rf_okC y (rf_up2 h.2.1 k i v q)
    rw [e1]
    exact h0
theorem rf_isO_sh {T : List rf_Sh} {k c : Nat} (h : rf_isO T k c = true) : rf_sh T k = some (.inl c) := by
  unfold rf_isO at h
  split at h
  · rename_i c' hc
    rw [hc, Nat.eq_of_beq_eq_true h]
  · cases h
theorem rf_len_sh {T : List rf_Sh} {k t n : Nat} (h : rf_len T k t = some n) : rf_sh T k = some (.inr (t, n)) := by
  unfold rf_len at h
  split at h
  · rename_i t' n' hc
    cases hb : Nat.beq t' t with
    | false => rw [hb] at h; cases h
    | true =>
      rw [hb] at h
      cases h
      rw [hc, Nat.eq_of_beq_eq_true hb]
  · cases h
theorem rf_gI_some {h : rf_H} {c k i : Nat} {x : Int} (e : rf_gI h c k i = some x) : rf_sh h.1 k = some (.inl c) ∧ h.2.1 k i = x := by
  unfold rf_gI at e
  cases hb : rf_isO h.1 k c with
  | false => rw [hb] at e; cases e
  | true => rw [hb] at e; cases e; exact ⟨rf_isO_sh hb, rfl⟩
theorem rf_gR_some {h : rf_H} {c k i : Nat} {x : Option Nat} (e : rf_gR h c k i = some x) : rf_sh h.1 k = some (.inl c) ∧ h.2.2.1 k i = x := by
  unfold rf_gR at e
  cases hb : rf_isO h.1 k c with
  | false => rw [hb] at e; cases e
  | true => rw [hb] at e; cases e; exact ⟨rf_isO_sh hb, rfl⟩
theorem rf_pI_some {h h' : rf_H} {c k i : Nat} {v : Int} (e : rf_pI h c k i v = some h') : rf_sh h.1 k = some (.inl c) ∧ h' = (h.1, rf_up2 h.2.1 k i v, h.2.2) := by
  unfold rf_pI at e
  cases hb : rf_isO h.1 k c with
  | false => rw [hb] at e; cases e
  | true => rw [hb] at e; cases e; exact ⟨rf_isO_sh hb, rfl⟩
theorem rf_pR_some {h h' : rf_H} {c k i : Nat} {v : Option Nat} (e : rf_pR h c k i v = some h') : rf_sh h.1 k = some (.inl c) ∧ h' = (h.1, h.2.1, rf_up2 h.2.2.1 k i v, h.2.2.2) := by
  unfold rf_pR at e
  cases hb : rf_isO h.1 k c with
  | false => rw [hb] at e; cases e
  | true => rw [hb] at e; cases e; exact ⟨rf_isO_sh hb, rfl⟩
/-- the words of the tables that a body's contract carries, and those of nest mates -/
def rf_TB : List Cond := lw_tbl.filter goodWord
def rf_isN (w : Cond) : Bool := match w with
  | .methodLinkNest .. => true
  | .fieldLinkNest .. => true
  | _ => false
def rf_NT : List Cond := lw_tbl.filter rf_isN
theorem rf_TB_good : ∀ w ∈ rf_TB, goodWord w = true := fun w h => (List.mem_filter.mp h).2
theorem rf_TB_of {i : Nat} {w : Cond} (h : lw_tbl[i]? = some w) (g : goodWord w = true) : w ∈ rf_TB := List.mem_filter.mpr ⟨List.mem_of_getElem? h, g⟩
theorem rf_NT_of {i : Nat} {w : Cond} (h : lw_tbl[i]? = some w) (g : rf_isN w = true) : w ∈ rf_NT := List.mem_filter.mpr ⟨List.mem_of_getElem? h, g⟩
theorem rf_NT_tabs {w : Cond} (h : w ∈ rf_NT) : w.onTables = true := by
  have h2 := (List.mem_filter.mp h).2
  cases w <;> first | rfl | cases h2
theorem rf_NT_warm {w : Cond} (h : w ∈ rf_NT) {s U : State} (hW : s.WarmedH U.vm) (hZ : va_Nw w s) : va_Nw w U := by
  have h2 := (List.mem_filter.mp h).2
  cases w <;> first | exact va_Nw.warmM hW hZ | exact va_Nw.warmF hW hZ | cases h2
set_option maxRecDepth 100000 in
theorem rf_cls_in {c : Nat} (h : c < 5) : ∀ w ∈ u_ws (rf_R' c) (rf_T c) (rf_N c), w ∈ rf_TB := by
  have g0 : ∀ w ∈ wsX00, goodWord w = true := by decide +kernel
  have g2 : ∀ w ∈ wsX20, goodWord w = true := by decide +kernel
  have g3 : ∀ w ∈ wsX30, goodWord w = true := by decide +kernel
  have g4 : ∀ w ∈ wsX40, goodWord w = true := by decide +kernel
  have g5 : ∀ w ∈ wsX50, goodWord w = true := by decide +kernel
  rcases c with _ | _ | _ | _ | _ | c
  · exact fun w hw => List.mem_filter.mpr ⟨inX0 w hw, g0 w hw⟩
  · exact fun w hw => List.mem_filter.mpr ⟨inX2 w hw, g2 w hw⟩
  · exact fun w hw => List.mem_filter.mpr ⟨inX3 w hw, g3 w hw⟩
  · exact fun w hw => List.mem_filter.mpr ⟨inX4 w hw, g4 w hw⟩
  · exact fun w hw => List.mem_filter.mpr ⟨inX5 w hw, g5 w hw⟩
  · omega
theorem rf_cls_ty {c : Nat} (h : c < 5) : ∀ k, k < rf_N c → parseFieldDescriptor (rf_T c k).2.2.1 = some (rf_ty c k) := by
  rcases c with _ | _ | _ | _ | _ | c
  · exact tyX0_ok
  · exact tyX2_ok
  · exact tyX3_ok
  · exact tyX4_ok
  · exact tyX5_ok
  · omega
theorem rf_cls_nm {c : Nat} (h : c < 5) : ∀ a, a < rf_N c → ∀ b, b < rf_N c → a ≠ b → (rf_T c a).2.1 ≠ (rf_T c b).2.1 := by
  rcases c with _ | _ | _ | _ | _ | c
  · exact nmX0
  · exact nmX2
  · exact nmX3
  · exact nmX4
  · exact nmX5
  · omega
theorem rf_cls_dc {c : Nat} (h : c < 5) : ∀ k, k < rf_N c → (rf_T c k).1 = rf_R' c := by
  have e0 : ∀ k, k < 11 → (TX0 k).1 = RX0 := by decide +kernel
  have e2 : ∀ k, k < 1 → (TX2 k).1 = RX2 := by decide +kernel
  have e3 : ∀ k, k < 2 → (TX3 k).1 = RX3 := by decide +kernel
  have e4 : ∀ k, k < 12 → (TX4 k).1 = RX4 := by decide +kernel
  have e5 : ∀ k, k < 17 → (TX5 k).1 = RX5 := by decide +kernel
  rcases c with _ | _ | _ | _ | _ | c
  · exact e0
  · exact e2
  · exact e3
  · exact e4
  · exact e5
  · omega
