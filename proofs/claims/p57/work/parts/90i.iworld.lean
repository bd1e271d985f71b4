/-! the whole picture out of the worlds that grew -/
def n_s : vSt := (fun k j => if k = 0 ∧ (j = 15 ∨ j = 16) then -1 else if k = 4 then n_f4 j else if k = 11 ∨ k = 33 ∨ k = 78 ∨ k = 100 ∨ k = 122 then n_fr j else 0, fun k j => if k = 0 ∧ j = 18 then 1 else 0)
def n_mk (G : vG) : va_E := .inl (G.2.2.2.2.2, 3, .inr (.inr (.inr (.inr (va_up (va_up (va_up (fun _ => none) 0 (some (G.1 77))) 1 (some (G.1 99))) 2 (some (G.1 121)))))))
def n_ce (G : vG) (k : Nat) : va_E := if k = 54 then n_mk G else v_ce G n_s k
def n_seg (G : vG) (b n : Nat) : va_W := (List.range n).map (fun j => (G.1 (b + j), n_ce G (b + j)))
def n_wl (G : vG) : va_W := (List.range 143).map (fun k => (G.1 k, n_ce G k))
theorem n_wl_at {G : vG} {k : Nat} (h : k < 143) : (n_wl G)[k]? = some (G.1 k, n_ce G k) := by simp [n_wl, h]
theorem n_wl_len {G : vG} : (n_wl G).length = 143 := by simp [n_wl]
theorem n_wl_seg {G : vG} : n_wl G = n_seg G 0 143 := by simp [n_wl, n_seg]
theorem n_seg_app {G : vG} {b b' n m : Nat} (h : b' = b + n) : n_seg G b n ++ n_seg G b' m = n_seg G b (n + m) := by
  subst h
  unfold n_seg
  rw [List.range_add, List.map_append, List.map_map]
  congr 1
  exact List.map_congr_left (fun j _ => by simp [Function.comp, Nat.add_assoc])
theorem n_kinds : ∀ k, k < 143 → k ≠ 54 → (v_sh k).1 < 12 ∨ (v_sh k).1 = 12 ∨ (v_sh k).1 = 13 ∨ (v_sh k).1 = 14 := by decide +kernel
theorem n_refs : ∀ k, k < 143 → (v_sh k).1 < 12 → ∀ e ∈ v_fk (v_sh k).1, (e.1 = 2 → k + e.2 < 143) ∧ (¬ e.1 ≤ 2 → e.2 < 143) := by decide +kernel
theorem n_low {G G0 : vG} (hG2 : G.2 = G0.2) (hlow : ∀ k, k < 143 → G.1 k = G0.1 k) {k : Nat} (hk : k < 143) (h54 : k ≠ 54) : v_ce G0 n_s k = v_ce G n_s k := by
  have e2 : G0.2 = G.2 := hG2.symm
  rcases n_kinds k hk h54 with h | h | h | h
  · have hf : v_fs G0.1 n_s k (v_sh k).1 = v_fs G.1 n_s k (v_sh k).1 := by
      unfold v_fs
      refine List.map_congr_left (fun e he => ?_)
      obtain ⟨r1, r2⟩ := n_refs k hk h e he
      unfold v_fv
      by_cases c0 : e.1 = 0
      · simp [c0]
      · by_cases c1 : e.1 = 1
        · simp [c1]
        · by_cases c2 : e.1 = 2
          · rw [if_neg c0, if_neg c0, if_neg c1, if_neg c1, if_pos c2, if_pos c2, hlow _ (r1 c2)]
          · rw [if_neg c0, if_neg c0, if_neg c1, if_neg c1, if_neg c2, if_neg c2, hlow _ (r2 (by omega))]
    unfold v_ce
    rw [if_pos h, if_pos h, hf]
  · have n12 : ¬ (v_sh k).1 < 12 := by omega
    unfold v_ce
    rw [if_neg n12, if_neg n12, if_pos h, if_pos h, e2]
  · have n12 : ¬ (v_sh k).1 < 12 := by omega
    have m12 : ¬ (v_sh k).1 = 12 := by omega
    unfold v_ce
    rw [if_neg n12, if_neg n12, if_neg m12, if_neg m12, if_pos h, if_pos h, e2]
  · have n12 : ¬ (v_sh k).1 < 12 := by omega
    have m12 : ¬ (v_sh k).1 = 12 := by omega
    have m13 : ¬ (v_sh k).1 = 13 := by omega
    unfold v_ce
    rw [if_neg n12, if_neg n12, if_neg m12, if_neg m12, if_neg m13, if_neg m13, if_pos h, if_pos h, e2]
theorem n_arr {cA : ClassId} {n : Nat} {f g : Nat → Value} (h : ∀ j, j < n → f j = g j) : arrV cA n f = arrV cA n g := by
  unfold arrV
  congr 1
  apply Array.ext
  · simp
  · intro i h1 h2
    simp only [Array.getElem_ofFn]
    exact h i (by simpa using h1)
theorem n_54 {G G0 : vG} (hG2 : G.2 = G0.2) (hlow : ∀ k, k < 143 → G.1 k = G0.1 k) {a : Nat} {H : Heap} (h : va_at G.2.1 vwCl (a, n_mk G0) H) : va_at G.2.1 vwCl (a, v_ce G n_s 54) H := by
  have e2 : G0.2 = G.2 := hG2.symm
  have h : H[a]? = some (arrV G0.2.2.2.2.2 3 (fun j => va_rf (va_up (va_up (va_up (fun _ => none) 0 (some (G0.1 77))) 1 (some (G0.1 99))) 2 (some (G0.1 121)) j))) := h
  show H[a]? = some (arrV G.2.2.2.2.2 3 (fun j => va_rf (some (G.1 (77 + 22 * j)))))
  rw [h, e2]
  congr 1
  refine n_arr (fun j hj => ?_)
  match j, hj with
  | 0, _ => rw [hlow _ (by omega)]; rfl
  | 1, _ => rw [hlow _ (by omega)]; rfl
  | 2, _ => rw [hlow _ (by omega)]; rfl
theorem n_full {A : Nat → Prop} {H : Heap} {G0 G : vG} (hG2 : G.2 = G0.2) (hlow : ∀ k, k < 143 → G.1 k = G0.1 k) {F : va_W} (hL : F.length = 2) (hF : ∀ j, j < 2 → F[j]? = some (G.1 (143 + j), v_ce G n_s (143 + j))) (hP : va_P G.2.1 vwCl (F ++ n_wl G0) H) (hD : va_D A (F ++ n_wl G0)) : va_P G.2.1 vwCl (v_wl G n_s) H ∧ v_DD G A := by
  have key : ∀ k, k < 145 → ∃ e, (F ++ n_wl G0)[if k < 143 then 2 + k else k - 143]? = some (G.1 k, e) ∧ va_at G.2.1 vwCl (G.1 k, v_ce G n_s k) H := by
    intro k hk
    by_cases c : k < 143
    · rw [if_pos c]
      have e0 : (F ++ n_wl G0)[2 + k]? = some (G0.1 k, n_ce G0 k) := by
        rw [List.getElem?_append_right (by omega), hL, show 2 + k - 2 = k by omega]
        exact n_wl_at c
      rw [← hlow k c] at e0
      refine ⟨_, e0, ?_⟩
      have hat := hP _ _ e0
      unfold n_ce at hat
      by_cases c5 : k = 54
      · subst c5
        rw [if_pos rfl] at hat
        exact n_54 hG2 hlow hat
      · rw [if_neg c5, n_low hG2 hlow c c5] at hat
        exact hat
    · rw [if_neg c]
      have e0 : (F ++ n_wl G0)[k - 143]? = some (G.1 k, v_ce G n_s k) := by
        rw [List.getElem?_append_left (by omega)]
        have := hF (k - 143) (by omega)
        rwa [show 143 + (k - 143) = k by omega] at this
      exact ⟨_, e0, hP _ _ e0⟩
  refine ⟨fun k q hq => ?_, fun i j hi hj e => ?_, fun i hi => ?_⟩
  · obtain ⟨hk, rfl⟩ := v_wl_inv hq
    exact (key k hk).choose_spec.2
  · obtain ⟨ei, hei, -⟩ := key i hi
    obtain ⟨ej, hej, -⟩ := key j hj
    have := hD.1 _ _ _ _ hei hej e
    by_cases c1 : i < 143 <;> by_cases c2 : j < 143 <;> simp only [c1, c2, if_true, if_false] at this <;> omega
  · obtain ⟨ei, hei, -⟩ := key i hi
    exact hD.2 _ _ hei
/-- lists in another order -/
theorem n_nd {A : Nat → Prop} {ws : va_W} : va_D A ws ↔ (ws.map Prod.fst).Nodup ∧ ∀ q ∈ ws, A q.1 := by
  constructor
  · intro h
    refine ⟨List.pairwise_iff_getElem.mpr (fun i j hi hj hij e => ?_), fun q hq => ?_⟩
    · have hi' : i < ws.length := by simpa using hi
      have hj' : j < ws.length := by simpa using hj
      have e : ws[i].1 = ws[j].1 := by simpa using e
      have := h.1 i j ws[i] ws[j] (List.getElem?_eq_getElem hi') (List.getElem?_eq_getElem hj') e
      omega
    · obtain ⟨i, hi⟩ := List.getElem?_of_mem hq
      exact h.2 i q hi
  · intro h
    refine ⟨fun i j p q hi hj e => ?_, fun k q hq => h.2 q (List.mem_of_getElem? hq)⟩
    have nd := List.pairwise_iff_getElem.mp h.1
    obtain ⟨hi', ei⟩ := List.getElem?_eq_some_iff.mp hi
    obtain ⟨hj', ej⟩ := List.getElem?_eq_some_iff.mp hj
    have hi2 : i < (ws.map Prod.fst).length := by simpa using hi'
    have hj2 : j < (ws.map Prod.fst).length := by simpa using hj'
    have em : (ws.map Prod.fst)[i] = (ws.map Prod.fst)[j] := by simp [ei, ej, e]
    rcases Nat.lt_trichotomy i j with c | c | c
    · exact absurd em (nd i j hi2 hj2 c)
    · exact c
    · exact absurd em.symm (nd j i hj2 hi2 c)
theorem N_permL {X : vX} {G : vG} {ws ws' : va_W} {k1 k2 pc : Nat} {lv : List (Nat × Value)} {st : List Value} (h : ws.Perm ws') (k : NJ X G ws' k1 k2 pc lv st) : NJ X G ws k1 k2 pc lv st := fun H locs ls hP hD hS hl => k H locs ls (fun i q hq => by
    obtain ⟨j, hj⟩ := List.getElem?_of_mem (h.symm.subset (List.mem_of_getElem? hq))
    exact hP j q hj) (n_nd.mpr ⟨(h.map Prod.fst).nodup_iff.mp (n_nd.mp hD).1, fun q hq => (n_nd.mp hD).2 q (h.symm.subset hq)⟩) hS hl
theorem n_pm {F W : va_W} {a : Nat × va_E} : ((F ++ W) ++ [a]).Perm ((F ++ [a]) ++ W) := by
  rw [List.append_assoc, List.append_assoc]
  exact List.Perm.append_left F List.perm_append_comm
/-- from worlds that grow to the picture, and back -/
def n_X (X : vX) (k1 k2 : Nat) : vX := (X.1, X.2.1, X.2.2.1, X.2.2.2.1, X.2.2.2.2.1, X.2.2.2.2.2.1, X.2.2.2.2.2.2.1, X.2.2.2.2.2.2.2.1, X.2.2.2.2.2.2.2.2.1, X.2.2.2.2.2.2.2.2.2.1, X.2.2.2.2.2.2.2.2.2.2.1, X.2.2.2.2.2.2.2.2.2.2.2.1, X.2.2.2.2.2.2.2.2.2.2.2.2.1, k1, k2)
theorem NJ_toV {X : vX} {G G' : vG} {S : vSt} {ws : va_W} {k1 k2 pc : Nat} {lv : List (Nat × Value)} {st : List Value} (h : ∀ H, va_P G.2.1 vwCl ws H → va_D (v_AA X) ws → va_P G'.2.1 vwCl (v_wl G' S) H ∧ v_DD G' (v_AA X)) (k : v_DD G' (v_AA X) → VJ (n_X X k1 k2) G' S pc lv st) : NJ X G ws k1 k2 pc lv st := fun H locs ls hP hD hS hl => by
  obtain ⟨a, b⟩ := h H hP hD
  exact k b H locs ls a hS hl
theorem VJ_toN {X : vX} {G G' : vG} {S : vSt} {k1 k2 pc : Nat} {lv : List (Nat × Value)} {st : List Value} (hd : v_DD G' (v_AA X)) (e2 : G'.2 = G.2) (k : NJ X G (v_wl G' S) k1 k2 pc lv st) : VJ (n_X X k1 k2) G' S pc lv st := fun H locs ls hP hS hl => k H locs ls (by rw [← e2]; exact hP) (hd.wl S) hS hl
theorem n_toC {X : vX} {G G' : vG} {cc : ByteArray} {own : String} {nL : Nat} {R : Room} {k1 k2 : Nat} (C : n_Cx X G cc own nL R) (e2 : G'.2 = G.2) (e1 : ∀ i, G'.1 (145 + i) = G.1 (145 + i)) (hd : v_DD G' (v_AA X)) (h1 : k1 ≤ R.cells) (h2 : k2 ≤ R.slots) : v_Cx (n_X X k1 k2) G' cc own nL R := by
  refine ⟨C.x, C.b, C.ml, C.nl, C.ow, C.ts, ?_, hd, ?_, C.rr, h1, h2⟩
  · have := C.K
    unfold v_tys at this ⊢
    rw [e2]; exact this
  · have := C.EX
    unfold v_EX at this ⊢
    rw [show (fun i => G'.1 (145 + i)) = (fun i => G.1 (145 + i)) from funext e1]; exact this
