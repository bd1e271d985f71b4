/-! THE PICTURE: all cells of both objects in one list by number; a state is two functions, ints and longs by (cell, place). -/
abbrev vSt : Type := (Nat → Nat → Int32) × (Nat → Nat → Int64)
def v_si (S : vSt) (k j : Nat) (v : Int32) : vSt := (fun a b => if a = k ∧ b = j then v else S.1 a b, S.2)
def v_sl (S : vSt) (k j : Nat) (v : Int64) : vSt := (S.1, fun a b => if a = k ∧ b = j then v else S.2 a b)
def v_ci (S : vSt) (k k2 sp dp n : Nat) : vSt := (fun a b => if a = k2 then va_cpy (S.1 k) (S.1 k2) sp dp n b else S.1 a b, S.2)
def v_cl (S : vSt) (k k2 sp dp n : Nat) : vSt := (S.1, fun a b => if a = k2 then va_cpy (S.2 k) (S.2 k2) sp dp n b else S.2 a b)
def v_shL : List (Nat × Nat) := [(10, 0), (7, 0), (14, 240), (13, 4), (13, 4), (6, 0), (12, 900), (13, 901), (13, 901), (14, 901), (0, 0), (13, 4), (14, 8), (13, 8), (13, 8), (13, 8), (13, 8), (13, 8), (14, 10), (13, 10), (13, 10), (13, 10), (13, 10), (13, 10), (13, 10), (8, 0), (13, 60), (13, 60), (13, 60), (13, 60), (13, 60), (13, 60), (0, 0), (13, 4), (14, 8), (13, 8), (13, 8), (13, 8), (13, 8), (13, 8), (14, 10), (13, 10), (13, 10), (13, 10), (13, 10), (13, 10), (13, 10), (8, 0), (13, 60), (13, 60), (13, 60), (13, 60), (13, 60), (13, 60), (15, 3), (1, 0), (9, 0), (13, 3), (3, 0), (14, 10), (14, 17), (14, 17), (14, 80), (14, 80), (14, 80), (14, 80), (13, 8), (14, 10), (2, 0), (13, 10), (14, 10), (14, 8), (5, 0), (13, 10), (4, 0), (13, 5), (13, 5), (0, 0), (13, 4), (14, 8), (13, 8), (13, 8), (13, 8), (13, 8), (13, 8), (14, 10), (13, 10), (13, 10), (13, 10), (13, 10), (13, 10), (13, 10), (8, 0), (13, 60), (13, 60), (13, 60), (13, 60), (13, 60), (13, 60), (0, 0), (13, 4), (14, 8), (13, 8), (13, 8), (13, 8), (13, 8), (13, 8), (14, 10), (13, 10), (13, 10), (13, 10), (13, 10), (13, 10), (13, 10), (8, 0), (13, 60), (13, 60), (13, 60), (13, 60), (13, 60), (13, 60), (0, 0), (13, 4), (14, 8), (13, 8), (13, 8), (13, 8), (13, 8), (13, 8), (14, 10), (13, 10), (13, 10), (13, 10), (13, 10), (13, 10), (13, 10), (8, 0), (13, 60), (13, 60), (13, 60), (13, 60), (13, 60), (13, 60), (13, 24), (13, 29)]
def v_sh (k : Nat) : Nat × Nat := v_shL.getD k (99, 0)
def v_fk : Nat → List (Nat × Nat)
  | 0 => [(2, 1), (2, 2), (2, 3), (2, 4), (2, 5), (2, 6), (2, 7), (2, 8), (2, 9), (2, 10), (2, 11), (2, 12), (2, 13), (2, 14), (2, 15), (0, 15), (0, 16), (0, 17), (0, 18)]
  | 1 => [(3, 5), (3, 32), (0, 2)]
  | 2 => [(3, 10), (3, 58), (3, 69), (3, 70), (3, 71), (0, 5)]
  | 3 => [(3, 10), (3, 59), (3, 60), (3, 61), (3, 62), (3, 63), (3, 64), (3, 65), (3, 66), (3, 67)]
  | 4 => [(3, 75), (0, 1), (0, 2)]
  | 5 => [(3, 10), (3, 73), (0, 2), (0, 3), (0, 4)]
  | 6 => [(3, 6), (0, 1), (3, 7), (3, 8), (3, 9), (0, 5), (0, 6), (0, 7), (0, 8), (1, 9), (1, 10), (0, 11), (0, 12)]
  | 7 => [(3, 2), (3, 3), (3, 4)]
  | 8 => [(2, 1), (2, 2), (2, 3), (2, 4), (2, 5), (2, 6), (0, 6), (0, 7), (0, 8)]
  | 9 => [(3, 5), (3, 10), (3, 47), (3, 57), (0, 4), (0, 5)]
  | 10 => [(3, 1), (3, 5), (3, 10), (3, 32), (3, 54), (3, 55), (3, 56), (3, 58), (3, 68), (3, 72), (3, 74), (3, 76), (0, 12), (0, 13), (0, 14), (0, 15), (0, 16), (1, 17), (1, 18)]
  | 11 => []
  | _ => []
/-- addresses; the kit's class numbers and slots; the classes of byte, int, long and City arrays -/
abbrev vG : Type := (Nat → Nat) × va_G × (ClassId × ClassId × ClassId × ClassId)
def v_fv (ad : Nat → Nat) (S : vSt) (k : Nat) (e : Nat × Nat) : Value := if e.1 = 0 then .int (S.1 k e.2) else if e.1 = 1 then .long (S.2 k e.2) else if e.1 = 2 then .ref (ad (k + e.2)) else .ref (ad e.2)
def v_fs (ad : Nat → Nat) (S : vSt) (k c : Nat) : List Value := (v_fk c).map (v_fv ad S k)
def v_ce (G : vG) (S : vSt) (k : Nat) : va_E := if (v_sh k).1 < 12 then .inr ((v_sh k).1, v_fs G.1 S k (v_sh k).1) else if (v_sh k).1 = 12 then .inl (G.2.2.1, (v_sh k).2, .inl (S.1 k)) else if (v_sh k).1 = 13 then .inl (G.2.2.2.1, (v_sh k).2, .inl (S.1 k)) else if (v_sh k).1 = 14 then .inl (G.2.2.2.2.1, (v_sh k).2, .inr (.inl (S.2 k))) else .inl (G.2.2.2.2.2, (v_sh k).2, .inr (.inr (.inr (.inr (fun j => some (G.1 (77 + 22 * j)))))))
def v_wl (G : vG) (S : vSt) : va_W := (List.range 145).map (fun k => (G.1 k, v_ce G S k))
def v_tys (G : vG) : List (ClassId × FieldType) := [(G.2.2.1, .byte), (G.2.2.2.1, .int), (G.2.2.2.2.1, .long), (G.2.2.2.2.2, .object "HalfAccuser$City")]
def v_A (G : vG) : Nat → Prop := fun q => ∃ k, k < 145 ∧ q = G.1 k
def v_DD (G : vG) (A : Nat → Prop) : Prop := (∀ i j, i < 145 → j < 145 → G.1 i = G.1 j → i = j) ∧ ∀ i, i < 145 → A (G.1 i)
theorem v_wl_at {G : vG} {S : vSt} {k : Nat} (h : k < 145) : (v_wl G S)[k]? = some (G.1 k, v_ce G S k) := by
  simp [v_wl, h]
theorem v_wl_inv {G : vG} {S : vSt} {k : Nat} {q : Nat × va_E} (h : (v_wl G S)[k]? = some q) : k < 145 ∧ q = (G.1 k, v_ce G S k) := by
  have hk : k < (v_wl G S).length := (List.getElem?_eq_some_iff.mp h).1
  have hk : k < 145 := by simpa [v_wl] using hk
  rw [v_wl_at hk] at h
  exact ⟨hk, (Option.some.inj h).symm⟩
theorem v_DD.wl {G : vG} {A : Nat → Prop} (h : v_DD G A) (S : vSt) : va_D A (v_wl G S) := by
  refine ⟨fun i j p q hi hj hpq => ?_, fun k q hk => ?_⟩
  · obtain ⟨h1, rfl⟩ := v_wl_inv hi
    obtain ⟨h2, rfl⟩ := v_wl_inv hj
    exact h.1 i j h1 h2 hpq
  · obtain ⟨h1, rfl⟩ := v_wl_inv hk
    exact h.2 k h1
theorem v_wl_set {G : vG} {S S' : vSt} {k : Nat} (h : k < 145) (ho : ∀ j, j < 145 → j ≠ k → v_ce G S' j = v_ce G S j) {e : va_E} (he : v_ce G S' k = e) : (v_wl G S).set k (G.1 k, e) = v_wl G S' := by
  subst he
  apply List.ext_getElem?
  intro j
  by_cases hj : j < 145
  · by_cases hjk : j = k
    · subst hjk
      rw [List.getElem?_set_self (by simpa [v_wl] using hj), v_wl_at hj]
    · rw [List.getElem?_set_ne (Ne.symm hjk), v_wl_at hj, v_wl_at hj, ho j hj hjk]
  · rw [List.getElem?_eq_none (by simp [v_wl]; omega), List.getElem?_eq_none (by simp [v_wl]; omega)]
theorem v_fv_si {ad : Nat → Nat} {S : vSt} {k k' j : Nat} {v : Int32} (h : k' ≠ k) (e : Nat × Nat) : v_fv ad (v_si S k j v) k' e = v_fv ad S k' e := by
  simp [v_fv, v_si, h]
theorem v_fv_sl {ad : Nat → Nat} {S : vSt} {k k' j : Nat} {v : Int64} (h : k' ≠ k) (e : Nat × Nat) : v_fv ad (v_sl S k j v) k' e = v_fv ad S k' e := by
  simp [v_fv, v_sl, h]
theorem v_ce_eq {G : vG} {S S' : vSt} {j : Nat} (h1 : S'.1 j = S.1 j) (h2 : S'.2 j = S.2 j) : v_ce G S' j = v_ce G S j := by
  have hf : v_fs G.1 S' j (v_sh j).1 = v_fs G.1 S j (v_sh j).1 := by
    simp only [v_fs]
    exact List.map_congr_left (fun e _ => by simp only [v_fv, h1, h2])
  simp only [v_ce, h1, h2, hf]
theorem v_row_si {S : vSt} {k j a : Nat} {v : Int32} (h : a ≠ k) : (v_si S k j v).1 a = S.1 a := by
  funext b; simp [v_si, h]
theorem v_row_si_self {S : vSt} {k j : Nat} {v : Int32} : (v_si S k j v).1 k = upd (S.1 k) j v := by
  funext b; simp [v_si, upd]
theorem v_row_sl {S : vSt} {k j a : Nat} {v : Int64} (h : a ≠ k) : (v_sl S k j v).2 a = S.2 a := by
  funext b; simp [v_sl, h]
theorem v_row_sl_self {S : vSt} {k j : Nat} {v : Int64} : (v_sl S k j v).2 k = vp_updL (S.2 k) j v := by
  funext b; simp [v_sl, vp_updL]
theorem v_fk_ok : ∀ c, c < 12 → ∀ i, i < (v_fk c).length → ∀ e, (v_fk c)[i]? = some e → e.1 ≤ 1 → e.2 = i := by
  have h : ∀ c, c < 12 → ∀ i, i < (v_fk c).length → (match (v_fk c)[i]? with | some e => decide (e.1 ≤ 1 → e.2 = i) | none => true) = true := by decide +kernel
  intro c hc i hi e he h1
  have := h c hc i hi
  rw [he] at this
  exact (of_decide_eq_true this) h1
theorem v_fs_seti {ad : Nat → Nat} {S : vSt} {k c j : Nat} (hc : c < 12) (hj : (v_fk c)[j]? = some (0, j)) (v : Int32) : (v_fs ad S k c).set j (.int v) = v_fs ad (v_si S k j v) k c := by
  apply List.ext_getElem?
  intro i
  have hl : j < (v_fk c).length := (List.getElem?_eq_some_iff.mp hj).1
  by_cases hi : i = j
  · subst hi
    rw [List.getElem?_set_self (by simpa [v_fs] using hl)]
    simp [v_fs, hj, v_fv, v_si]
  · rw [List.getElem?_set_ne (Ne.symm hi)]
    simp only [v_fs, List.getElem?_map]
    cases he : (v_fk c)[i]? with
    | none => rfl
    | some e =>
      have hli : i < (v_fk c).length := (List.getElem?_eq_some_iff.mp he).1
      have h1 := v_fk_ok c hc i hli e he
      simp only [Option.map_some, Option.some.injEq, v_fv, v_si]
      by_cases h0 : e.1 = 0
      · have : e.2 ≠ j := by rw [h1 (by omega)]; exact hi
        simp [h0, this]
      · simp [h0]
theorem v_fs_setl {ad : Nat → Nat} {S : vSt} {k c j : Nat} (hc : c < 12) (hj : (v_fk c)[j]? = some (1, j)) (v : Int64) : (v_fs ad S k c).set j (.long v) = v_fs ad (v_sl S k j v) k c := by
  apply List.ext_getElem?
  intro i
  have hl : j < (v_fk c).length := (List.getElem?_eq_some_iff.mp hj).1
  by_cases hi : i = j
  · subst hi
    rw [List.getElem?_set_self (by simpa [v_fs] using hl)]
    simp [v_fs, hj, v_fv, v_sl]
  · rw [List.getElem?_set_ne (Ne.symm hi)]
    simp only [v_fs, List.getElem?_map]
    cases he : (v_fk c)[i]? with
    | none => rfl
    | some e =>
      have hli : i < (v_fk c).length := (List.getElem?_eq_some_iff.mp he).1
      have h1 := v_fk_ok c hc i hli e he
      simp only [Option.map_some, Option.some.injEq, v_fv, v_sl]
      by_cases h0 : e.1 = 1
      · have : e.2 ≠ j := by rw [h1 (by omega)]; exact hi
        simp [h0, this]
      · simp [h0]
/-! WHAT A METHOD MAY USE BESIDE THE PICTURE: the static rows, the string of the words, links of nest mates -/
def v_sr : Nat → (String × List Int32)
  | 0 => ("FIRST_RULES", [5, 1, 100, 8])
  | 1 => ("LEAST_RULES", [1, 0, 0, 0])
  | _ => ("MOST_RULES", [9, 9, 999, 16])
def v_kw : List Int32 := [106, 117, 114, 111, 114, 115, 32, 102, 105, 102, 116, 104, 32, 112, 101, 110, 97, 108, 116, 121, 32, 115, 104, 97, 114, 101, 32, 112, 101, 114, 115, 111, 110, 32, 99, 111, 105, 110, 115, 32, 115, 107, 105, 108, 108, 32, 100, 101, 101, 100, 32, 111, 102, 32, 102, 105, 110, 101, 32, 111, 100, 100, 115, 32, 99, 104, 97, 114, 103, 101, 32, 100, 114, 111, 112, 32, 102, 111, 114, 32, 101, 97, 114, 110, 32, 97, 110, 121, 32, 119, 104, 101, 110, 32, 111, 112, 101, 110, 32, 114, 117, 105, 110, 101, 100, 32, 108, 111, 111, 112, 32, 101, 110, 100, 32, 115, 116, 111, 112, 32]
def v_nestM : List (String × Nat × MethodName × String) := [("HalfAccuser", 18, ⟨"HalfAccuser$Tape", "<init>", "()V"⟩, "HalfAccuser"), ("HalfAccuser$City", 57, ⟨"HalfAccuser$Years", "<init>", "()V"⟩, "HalfAccuser"), ("HalfAccuser$City", 68, ⟨"HalfAccuser", "copy", "([I[I)V"⟩, "HalfAccuser"), ("HalfAccuser", 86, ⟨"HalfAccuser$Life", "<init>", "()V"⟩, "HalfAccuser"), ("HalfAccuser$City", 104, ⟨"HalfAccuser", "at", "([II)I"⟩, "HalfAccuser"), ("HalfAccuser$City", 115, ⟨"HalfAccuser", "isIn", "(II)Z"⟩, "HalfAccuser"), ("HalfAccuser$City", 97, ⟨"HalfAccuser", "put", "([III)V"⟩, "HalfAccuser"), ("HalfAccuser$City", 124, ⟨"HalfAccuser", "limited", "(II)I"⟩, "HalfAccuser"), ("HalfAccuser$City", 93, ⟨"HalfAccuser", "put", "([JIJ)V"⟩, "HalfAccuser"), ("HalfAccuser$Hopes", 56, ⟨"HalfAccuser", "put", "([JIJ)V"⟩, "HalfAccuser"), ("HalfAccuser$Hopes", 60, ⟨"HalfAccuser", "at", "([JI)J"⟩, "HalfAccuser"), ("HalfAccuser$Hopes", 79, ⟨"HalfAccuser", "put", "([III)V"⟩, "HalfAccuser"), ("HalfAccuser$Hopes", 99, ⟨"HalfAccuser", "at", "([II)I"⟩, "HalfAccuser"), ("HalfAccuser$Hopes", 109, ⟨"HalfAccuser", "isIn", "(II)Z"⟩, "HalfAccuser"), ("HalfAccuser$Games", 39, ⟨"HalfAccuser", "put", "([III)V"⟩, "HalfAccuser"), ("HalfAccuser$Games", 59, ⟨"HalfAccuser", "put", "([JIJ)V"⟩, "HalfAccuser"), ("HalfAccuser$Games", 66, ⟨"HalfAccuser", "at", "([II)I"⟩, "HalfAccuser"), ("HalfAccuser$Games", 70, ⟨"HalfAccuser", "isIn", "(II)Z"⟩, "HalfAccuser"), ("HalfAccuser$Games", 73, ⟨"HalfAccuser", "at", "([JI)J"⟩, "HalfAccuser"), ("HalfAccuser$Past", 32, ⟨"HalfAccuser", "put", "([III)V"⟩, "HalfAccuser"), ("HalfAccuser$Past", 64, ⟨"HalfAccuser", "isIn", "(II)Z"⟩, "HalfAccuser"), ("HalfAccuser$Past", 39, ⟨"HalfAccuser", "at", "([II)I"⟩, "HalfAccuser"), ("HalfAccuser$City", 86, ⟨"HalfAccuser", "copy", "([J[J)V"⟩, "HalfAccuser"), ("HalfAccuser$Years", 41, ⟨"HalfAccuser", "copy", "([I[I)V"⟩, "HalfAccuser"), ("HalfAccuser$Tape", 65, ⟨"HalfAccuser", "put", "([III)V"⟩, "HalfAccuser"), ("HalfAccuser$Tape", 69, ⟨"HalfAccuser", "put", "([JIJ)V"⟩, "HalfAccuser"), ("HalfAccuser$Tape", 114, ⟨"HalfAccuser", "at", "([II)I"⟩, "HalfAccuser"), ("HalfAccuser$Tape", 118, ⟨"HalfAccuser", "at", "([JI)J"⟩, "HalfAccuser"), ("HalfAccuser$CityReader", 51, ⟨"HalfAccuser", "isIn", "(II)Z"⟩, "HalfAccuser"), ("HalfAccuser$CityReader", 62, ⟨"HalfAccuser", "at", "([II)I"⟩, "HalfAccuser"), ("HalfAccuser$CityReader", 78, ⟨"HalfAccuser", "put", "([III)V"⟩, "HalfAccuser"), ("HalfAccuser$City", 100, ⟨"HalfAccuser", "at", "([JI)J"⟩, "HalfAccuser"), ("HalfAccuser$YearsReader", 59, ⟨"HalfAccuser", "at", "([II)I"⟩, "HalfAccuser"), ("HalfAccuser$Years", 45, ⟨"HalfAccuser", "put", "([III)V"⟩, "HalfAccuser"), ("HalfAccuser$YearsReader", 134, ⟨"HalfAccuser", "put", "([III)V"⟩, "HalfAccuser")]
def v_nestF : List (String × Nat × String × String × String × String) := [("HalfAccuser$City", 65, "HalfAccuser", "FIRST_RULES", "[I", "HalfAccuser"), ("HalfAccuser$CityReader", 58, "HalfAccuser", "LEAST_RULES", "[I", "HalfAccuser"), ("HalfAccuser$CityReader", 66, "HalfAccuser", "MOST_RULES", "[I", "HalfAccuser")]
def v_NN (U : State) : Prop := (∀ q ∈ v_nestM, va_Nw (.methodLinkNest q.1 q.2.1 q.2.2.1 q.2.2.2) U) ∧ (∀ q ∈ v_nestF, va_Nw (.fieldLinkNest q.1 q.2.1 q.2.2.1 q.2.2.2.1 q.2.2.2.2.1 q.2.2.2.2.2) U)
def v_slen : List Nat := [120, 6, 6, 8, 6, 1, 6, 6, 6, 4, 3, 5, 5]
def v_sbyt : List (List Int32) := [v_kw, [106, 117, 114, 111, 114, 115], [59, 102, 105, 102, 116, 104], [59, 112, 101, 110, 97, 108, 116, 121], [59, 115, 104, 97, 114, 101], [59], [112, 101, 114, 115, 111, 110], [32, 99, 111, 105, 110, 115], [32, 115, 107, 105, 108, 108], [100, 101, 101, 100], [32, 111, 102], [32, 102, 105, 110, 101], [32, 111, 100, 100, 115]]
def v_srf : Nat → (Nat × String × String)
  | 0 => (80, "HalfAccuser$Tape", "jurors fifth penalty share person coins skill deed of fine odds charge drop for earn any when open ruined loop end stop ")
  | 1 => (43, "HalfAccuserLaw", "jurors")
  | 2 => (52, "HalfAccuserLaw", ";fifth")
  | 3 => (54, "HalfAccuserLaw", ";penalty")
  | 4 => (56, "HalfAccuserLaw", ";share")
  | 5 => (58, "HalfAccuserLaw", ";")
  | 6 => (60, "HalfAccuserLaw", "person")
  | 7 => (66, "HalfAccuserLaw", " coins")
  | 8 => (68, "HalfAccuserLaw", " skill")
  | 9 => (70, "HalfAccuserLaw", "deed")
  | 10 => (72, "HalfAccuserLaw", " of")
  | 11 => (74, "HalfAccuserLaw", " fine")
  | _ => (76, "HalfAccuserLaw", " odds")
/-- the script: its length, its numbers -/
def v_xl (t : Nat → Nat) : Nat := t 100
def v_xs (t : Nat → Nat) (j : Nat) : Int32 := Int32.ofNat (t (101 + j))
def v_ST (A : Nat → Prop) (t : Nat → Nat) (U : State) (H : Heap) : Prop := (∀ i, i < 3 → va_Z "HalfAccuser" (v_sr i).1 "[I" (.ref (t i)) A U H ∧ va_T .int (t i) 4 (fun j => .int ((v_sr i).2.getD j 0)) A U H) ∧ (∀ q, q < 13 → vk_R (v_srf q).2.1 (v_srf q).1 (v_srf q).2.2 (t (3 + 2 * q)) U) ∧ vk_S 13 v_slen v_sbyt (fun q => t (3 + 2 * q)) (fun q => t (4 + 2 * q)) A U H ∧ va_Z "java/lang/String" "COMPACT_STRINGS" "Z" (.int 1) A U H ∧ va_Zq "jdk/internal/util/Preconditions" "SIOOBE_FORMATTER" "Ljava/util/function/BiFunction;" A U H ∧ va_T .int (t 99) (v_xl t) (fun j => .int (v_xs t j)) A U H
/-- the static things stand at the numbers 145 .. -/
def v_EX (G : vG) (A : Nat → Prop) (U : State) (H : Heap) : Prop := v_ST A (fun i => G.1 (145 + i)) U H ∧ v_NN U
theorem v_NN.warm {s U : State} (hW : s.WarmedH U.vm) (h : v_NN s) : v_NN U := ⟨fun q hq => va_Nw.warmM hW (h.1 q hq), fun q hq => va_Nw.warmF hW (h.2 q hq)⟩
theorem v_ST.warm {A : Nat → Prop} {t : Nat → Nat} {s U : State} {H : Heap} (hW : s.WarmedH U.vm) (h : v_ST A t s H) : v_ST A t U H := ⟨fun i hi => ⟨va_Z.moved hW.alike (h.1 i hi).1, va_T.moved hW.alike (h.1 i hi).2⟩, fun q hq => vk_R.warm hW (h.2.1 q hq), vk_S.moved hW.alike h.2.2.1, va_Z.moved hW.alike h.2.2.2.1, va_Zq.moved hW.alike h.2.2.2.2.1, va_T.moved hW.alike h.2.2.2.2.2⟩
theorem v_ST.kept {A : Nat → Prop} {t : Nat → Nat} {U : State} {H H1 : Heap} (h : v_ST A t U H) (hq : ∀ a : Nat, a < H.size → ¬ A a → H1[a]? = H[a]?) : v_ST A t U H1 := ⟨fun i hi => ⟨va_Z.kept (h.1 i hi).1 hq, va_T.kept (h.1 i hi).2 hq⟩, h.2.1, vk_S.kept h.2.2.1 hq, va_Z.kept h.2.2.2.1 hq, va_Zq.kept h.2.2.2.2.1 hq, va_T.kept h.2.2.2.2.2 hq⟩
theorem v_EX.warm {G : vG} {A : Nat → Prop} {s U : State} {H : Heap} (hW : s.WarmedH U.vm) (h : v_EX G A s H) : v_EX G A U H := ⟨h.1.warm hW, h.2.warm hW⟩
theorem v_EX.kept {G : vG} {A : Nat → Prop} {U : State} {H H1 : Heap} (h : v_EX G A U H) (hq : ∀ a : Nat, a < H.size → ¬ A a → H1[a]? = H[a]?) : v_EX G A U H1 := ⟨h.1.kept hq, h.2⟩
theorem va_Z.narrow2 {C n d : String} {v : Value} {A B : Nat → Prop} {U : State} {H : Heap} (h : va_Z C n d v A U H) (hAB : ∀ q, B q → A q) : va_Z C n d v B U H := by
  obtain ⟨cf, kf, fi, f, a, cell, h1, h2, h3, h4, h5, h6, h7, h8⟩ := h
  exact ⟨cf, kf, fi, f, a, cell, h1, h2, h3, h4, h5, h6, h7, fun q => h8 (hAB _ q)⟩
theorem v_EX.narrow {G : vG} {A B : Nat → Prop} {U : State} {H : Heap} (h : v_EX G A U H) (hAB : ∀ q, B q → A q) : v_EX G B U H := ⟨⟨fun i hi => ⟨va_Z.narrow2 (h.1.1 i hi).1 hAB, va_T.narrow (h.1.1 i hi).2 hAB⟩, h.1.2.1, vk_S.narrow h.1.2.2.1 hAB, va_Z.narrow2 h.1.2.2.2.1 hAB, va_Zq.narrow h.1.2.2.2.2.1 hAB, va_T.narrow h.1.2.2.2.2.2 hAB⟩, h.2⟩
