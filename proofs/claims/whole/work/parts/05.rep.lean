/-! what the real heap is when my machine's is h -/
def zal (b B a : Nat) : Nat := if a = 0 then b else B + a
def zsh (b B : Nat) : Value → Value
  | .ref a => .ref (zal b B a)
  | v => v
theorem zsh_cat (b B : Nat) (v : Value) : (zsh b B v).category = v.category := by cases v <;> rfl
def zE (tc : Nat → ClassId) (b B : Nat) : zA → va_E
  | .inl (t, n, .inl f) => .inl (tc t, n, .inl f)
  | .inl (t, n, .inr (.inl f)) => .inl (tc t, n, .inr (.inl f))
  | .inl (t, n, .inr (.inr (.inl f))) => .inl (tc t, n, .inr (.inr (.inl f)))
  | .inl (t, n, .inr (.inr (.inr (.inl f)))) => .inl (tc t, n, .inr (.inr (.inr (.inl f))))
  | .inl (t, n, .inr (.inr (.inr (.inr f)))) => .inl (tc t, n, .inr (.inr (.inr (.inr (fun j => (f j).map (zal b B))))))
  | .inr (ci, fs) => .inr (ci, fs.map (zsh b B))
def zW (tc : Nat → ClassId) (b B : Nat) (h : zH) : va_W := (List.range (h.1 - 1)).map (fun i => (B + (i + 1), zE tc b B (h.2.2 (i + 1))))
theorem zW_get {tc : Nat → ClassId} {b B a : Nat} {h : zH} (h0 : 0 < a) (h1 : a < h.1) : (zW tc b B h)[a - 1]? = some (B + a, zE tc b B (h.2.2 a)) := by
  unfold zW
  rw [List.getElem?_map, List.getElem?_range (by omega)]
  simp only [Option.map_some]
  rw [Nat.sub_add_cancel h0]
theorem zW_inv {tc : Nat → ClassId} {b B k : Nat} {h : zH} {q : Nat × va_E} (hk : (zW tc b B h)[k]? = some q) : k < h.1 - 1 ∧ q = (B + (k + 1), zE tc b B (h.2.2 (k + 1))) := by
  unfold zW at hk
  rw [List.getElem?_map] at hk
  cases hr : (List.range (h.1 - 1))[k]? with
  | none => rw [hr] at hk; cases hk
  | some i =>
    rw [hr] at hk
    obtain ⟨h1, h2⟩ := List.getElem?_eq_some_iff.mp hr
    rw [List.length_range] at h1
    rw [List.getElem_range] at h2
    subst h2
    exact ⟨h1, (Option.some.inj hk).symm⟩
theorem zW_D {tc : Nat → ClassId} {b B : Nat} {h : zH} : va_D (fun q => B + 1 ≤ q) (zW tc b B h) := by
  refine ⟨fun i j x y hi hj hxy => ?_, fun k q hk => ?_⟩
  · obtain ⟨-, rfl⟩ := zW_inv hi
    obtain ⟨-, rfl⟩ := zW_inv hj
    have : B + (i + 1) = B + (j + 1) := hxy
    omega
  · obtain ⟨-, rfl⟩ := zW_inv hk
    show B + 1 ≤ B + (k + 1)
    omega
def zRp (dC : Nat → ClassId) (dI : Nat → Nat → Nat) (tc : Nat → ClassId) (b B L : Nat) (xs : Nat → Int32) (h : zH) (H : Heap) : Prop :=
  H.size = B + h.1 ∧ 1 ≤ h.1 ∧ (∀ a, h.1 ≤ a → h.2.2 a = zdead) ∧ h.2.2 0 = .inl (9, L, .inl xs) ∧ va_P (dC, dI) vwCl (zW tc b B h) H
section ZR
variable {dC : Nat → ClassId} {dI : Nat → Nat → Nat} {tc : Nat → ClassId} {b B L : Nat} {xs : Nat → Int32} {h : zH} {H H1 : Heap}
theorem zRp.obj (r : zRp dC dI tc b B L xs h H) {a ci : Nat} {fs : List Value} (e : h.2.2 a = .inr (ci, fs)) (hc : ci ≠ 99) : 0 < a ∧ a < h.1 := by
  obtain ⟨-, -, hd, h0, -⟩ := r
  refine ⟨?_, ?_⟩
  · rcases Nat.eq_zero_or_pos a with q | q
    · subst q; rw [h0] at e; cases e
    · exact q
  · rcases Nat.lt_or_ge a h.1 with q | q
    · exact q
    · have := hd a q
      rw [e] at this
      cases this
      exact absurd rfl hc
theorem zRp.arr (r : zRp dC dI tc b B L xs h H) {a t : Nat} {x : vp_A} (e : h.2.2 a = .inl (t, x)) (ht : t ≠ 9) : 0 < a ∧ a < h.1 := by
  obtain ⟨-, -, hd, h0, -⟩ := r
  refine ⟨?_, ?_⟩
  · rcases Nat.eq_zero_or_pos a with q | q
    · subst q; rw [h0] at e; cases e; exact absurd rfl ht
    · exact q
  · rcases Nat.lt_or_ge a h.1 with q | q
    · exact q
    · have := hd a q
      rw [e] at this
      cases this
theorem zRp.script (r : zRp dC dI tc b B L xs h H) {a : Nat} {x : vp_A} (e : h.2.2 a = .inl (9, x)) : (a = 0 ∧ x = (L, .inl xs)) ∨ (0 < a ∧ a < h.1) := by
  rcases Nat.eq_zero_or_pos a with q | q
  · subst q
    rw [r.2.2.2.1] at e
    cases e
    exact Or.inl ⟨rfl, rfl⟩
  · right
    refine ⟨q, ?_⟩
    rcases Nat.lt_or_ge a h.1 with q' | q'
    · exact q'
    · have := r.2.2.1 a q'
      rw [e] at this
      cases this
theorem zRp.write (r : zRp dC dI tc b B L xs h H) {a : Nat} {x : zA} (h0 : 0 < a) (h1 : a < h.1) (he : va_at (dC, dI) vwCl (B + a, zE tc b B x) H1) (z : H1.size = H.size) (oq : ∀ q : Nat, q ≠ B + a → H1[q]? = H[q]?) : zRp dC dI tc b B L xs (zw h a x) H1 := by
  obtain ⟨r1, r2, r3, r4, r5⟩ := r
  refine ⟨z.trans r1, r2, fun a' ha' => ?_, ?_, fun k q hk => ?_⟩
  · show zup h.2.2 a x a' = zdead
    have : h.1 ≤ a' := ha'
    unfold zup
    rw [if_neg (by omega)]
    exact r3 a' ha'
  · show zup h.2.2 a x 0 = _
    unfold zup
    rw [if_neg (by omega)]
    exact r4
  · obtain ⟨hk1, rfl⟩ := zW_inv hk
    have hk1' : k < h.1 - 1 := hk1
    by_cases e : k + 1 = a
    · subst e
      have : (zw h (k + 1) x).2.2 (k + 1) = x := by show zup _ _ _ _ = _; unfold zup; rw [if_pos rfl]
      rw [this]
      exact he
    · have : (zw h a x).2.2 (k + 1) = h.2.2 (k + 1) := by show zup _ _ _ _ = _; unfold zup; rw [if_neg e]
      rw [this]
      have hg : (zW tc b B h)[k]? = some (B + (k + 1), zE tc b B (h.2.2 (k + 1))) := zW_get (a := k + 1) (by omega) (by omega)
      exact (r5 k _ hg).kept (oq _ (by show B + (k + 1) ≠ B + a; omega))
theorem zRp.push (r : zRp dC dI tc b B L xs h H) {n : Nat} {x : zA} (he : va_at (dC, dI) vwCl (B + h.1, zE tc b B x) H1) (z : H1.size = H.size + 1) (oq : ∀ q : Nat, q < H.size → H1[q]? = H[q]?) : zRp dC dI tc b B L xs (znew h n x) H1 := by
  obtain ⟨r1, r2, r3, r4, r5⟩ := r
  refine ⟨?_, ?_, fun a' ha' => ?_, ?_, fun k q hk => ?_⟩
  · show H1.size = B + (h.1 + 1); omega
  · show 1 ≤ h.1 + 1; omega
  · have : h.1 + 1 ≤ a' := ha'
    show zup h.2.2 h.1 x a' = zdead
    unfold zup
    rw [if_neg (by omega)]
    exact r3 a' (by omega)
  · show zup h.2.2 h.1 x 0 = _
    unfold zup
    rw [if_neg (by omega)]
    exact r4
  · obtain ⟨hk1, rfl⟩ := zW_inv hk
    have hk1' : k < h.1 + 1 - 1 := hk1
    by_cases e : k + 1 = h.1
    · have : (znew h n x).2.2 (k + 1) = x := by show zup _ _ _ _ = _; unfold zup; rw [if_pos e]
      rw [this, e]
      exact he
    · have : (znew h n x).2.2 (k + 1) = h.2.2 (k + 1) := by show zup _ _ _ _ = _; unfold zup; rw [if_neg e]
      rw [this]
      have hg : (zW tc b B h)[k]? = some (B + (k + 1), zE tc b B (h.2.2 (k + 1))) := zW_get (a := k + 1) (by omega) (by omega)
      have hlt := (r5 k _ hg).lt
      exact (r5 k _ hg).kept (oq _ hlt)
end ZR
/-! locals -/
def zLs (b B n : Nat) (LL : zL) (ls : Array Slot) : Prop := LL.length = n ∧ ls.size = n ∧ lv_wf ls ∧ ∀ (i : Nat) (v : Value), LL[i]? = some (some v) → ls[i]? = some (.val (zsh b B v))
def zlv (b B : Nat) (LL : zL) : List (Nat × Value) := (List.range LL.length).filterMap (fun i => match LL[i]? with
  | some (some v) => some (i, zsh b B v)
  | _ => none)
theorem zlv_mem {b B : Nat} {LL : zL} {i : Nat} {w : Value} : (i, w) ∈ zlv b B LL ↔ ∃ v, LL[i]? = some (some v) ∧ w = zsh b B v := by
  unfold zlv
  rw [List.mem_filterMap]
  constructor
  · rintro ⟨j, -, hj⟩
    split at hj
    · next v hv =>
      cases hj
      exact ⟨v, hv, rfl⟩
    · cases hj
  · rintro ⟨v, hv, rfl⟩
    refine ⟨i, List.mem_range.mpr (List.getElem?_eq_some_iff.mp hv).1, ?_⟩
    rw [hv]
theorem zLs.has {b B n : Nat} {LL : zL} {ls : Array Slot} (h : zLs b B n LL ls) : lv_has ls n (zlv b B LL) := by
  refine ⟨h.2.1, h.2.2.1, fun q hq => ?_⟩
  obtain ⟨i, w⟩ := q
  obtain ⟨v, hv, rfl⟩ := zlv_mem.mp hq
  exact h.2.2.2 i v hv
theorem zclr_some {o : Option Value} {w : Value} (h : zclr o = some w) : o = some w ∧ w.category ≠ 2 := by
  cases o with
  | none => cases h
  | some v => cases v <;> simp [zclr] at h <;> subst h <;> exact ⟨rfl, by simp [Value.category]⟩
theorem zset1_len : ∀ (L : zL) (i : Nat) (v : Value), (zset1 L i v).length = L.length
  | [], _, _ => rfl
  | _ :: _, 0, _ => rfl
  | o :: t, 1, v => by simp [zset1, zset1_len t 0 v]
  | o :: t, i + 2, v => by simp [zset1, zset1_len t (i + 1) v]
theorem zset2_len : ∀ (L : zL) (i : Nat) (v : Value), (zset2 L i v).length = L.length
  | [], _, _ => rfl
  | [_], 0, _ => rfl
  | [_], _ + 1, _ => rfl
  | _ :: _ :: _, 0, _ => rfl
  | o :: p :: t, 1, v => by simp [zset2, zset2_len (p :: t) 0 v]
  | o :: p :: t, i + 2, v => by simp [zset2, zset2_len (p :: t) (i + 1) v]
theorem zset1_get : ∀ (L : zL) (i : Nat) (v : Value) (j : Nat) (w : Value), (zset1 L i v)[j]? = some (some w) → (j = i ∧ w = v) ∨ (j ≠ i ∧ L[j]? = some (some w) ∧ ¬ (j + 1 = i ∧ w.category = 2))
  | [], i, v, j, w, h => by simp [zset1] at h
  | o :: t, 0, v, 0, w, h => by
    simp [zset1] at h
    exact Or.inl ⟨rfl, h.symm⟩
  | o :: t, 0, v, j + 1, w, h => by
    simp [zset1] at h
    exact Or.inr ⟨by omega, by simpa using h, by omega⟩
  | o :: t, 1, v, 0, w, h => by
    simp [zset1] at h
    obtain ⟨h1, h2⟩ := zclr_some h
    exact Or.inr ⟨by omega, by simp [h1], fun q => h2 q.2⟩
  | o :: t, 1, v, j + 1, w, h => by
    simp [zset1] at h
    rcases zset1_get t 0 v j w h with ⟨h1, h2⟩ | ⟨h1, h2, h3⟩
    · exact Or.inl ⟨by omega, h2⟩
    · exact Or.inr ⟨by omega, by simpa using h2, by omega⟩
  | o :: t, i + 2, v, 0, w, h => by
    simp [zset1] at h
    exact Or.inr ⟨by omega, by simp [h], by omega⟩
  | o :: t, i + 2, v, j + 1, w, h => by
    simp [zset1] at h
    rcases zset1_get t (i + 1) v j w h with ⟨h1, h2⟩ | ⟨h1, h2, h3⟩
    · exact Or.inl ⟨by omega, h2⟩
    · exact Or.inr ⟨by omega, by simpa using h2, fun q => h3 ⟨by omega, q.2⟩⟩
theorem zset2_get : ∀ (L : zL) (i : Nat) (v : Value) (j : Nat) (w : Value), (zset2 L i v)[j]? = some (some w) → (j = i ∧ w = v) ∨ (j ≠ i ∧ j ≠ i + 1 ∧ L[j]? = some (some w) ∧ ¬ (j + 1 = i ∧ w.category = 2))
  | [], i, v, j, w, h => by simp [zset2] at h
  | [o], 0, v, j, w, h => by
    cases j <;> simp [zset2] at h
  | [o], i + 1, v, j, w, h => by
    cases j <;> simp [zset2] at h
  | o :: p :: t, 0, v, 0, w, h => by
    simp [zset2] at h
    exact Or.inl ⟨rfl, h.symm⟩
  | o :: p :: t, 0, v, 1, w, h => by
    simp [zset2] at h
  | o :: p :: t, 0, v, j + 2, w, h => by
    simp [zset2] at h
    exact Or.inr ⟨by omega, by omega, by simpa using h, by omega⟩
  | o :: p :: t, 1, v, 0, w, h => by
    simp [zset2] at h
    obtain ⟨h1, h2⟩ := zclr_some h
    exact Or.inr ⟨by omega, by omega, by simp [h1], fun q => h2 q.2⟩
  | o :: p :: t, 1, v, j + 1, w, h => by
    have h' : (zset2 (p :: t) 0 v)[j]? = some (some w) := by simpa [zset2] using h
    rcases zset2_get (p :: t) 0 v j w h' with ⟨h1, h2⟩ | ⟨h1, h2, h3, h4⟩
    · exact Or.inl ⟨by omega, h2⟩
    · exact Or.inr ⟨by omega, by omega, by simpa using h3, by omega⟩
  | o :: p :: t, i + 2, v, 0, w, h => by
    simp [zset2] at h
    exact Or.inr ⟨by omega, by omega, by simp [h], by omega⟩
  | o :: p :: t, i + 2, v, j + 1, w, h => by
    have h' : (zset2 (p :: t) (i + 1) v)[j]? = some (some w) := by simpa [zset2] using h
    rcases zset2_get (p :: t) (i + 1) v j w h' with ⟨h1, h2⟩ | ⟨h1, h2, h3, h4⟩
    · exact Or.inl ⟨by omega, h2⟩
    · exact Or.inr ⟨by omega, by omega, by simpa using h3, fun q => h4 ⟨by omega, q.2⟩⟩
theorem zLs.set1 {b B n i : Nat} {LL : zL} {ls ls' : Array Slot} {v : Value} (h : zLs b B n LL ls) (h' : lv_has ls' n ((i, zsh b B v) :: (zlv b B LL).filter (fun q => !(q.1 == i) && !(q.1 + 1 == i && q.2.category == 2)))) : zLs b B n (zset1 LL i v) ls' := by
  refine ⟨by rw [zset1_len]; exact h.1, h'.1, h'.2.1, fun j w hj => ?_⟩
  rcases zset1_get LL i v j w hj with ⟨rfl, rfl⟩ | ⟨h1, h2, h3⟩
  · exact h'.2.2 (j, _) List.mem_cons_self
  · refine h'.2.2 (j, zsh b B w) (List.mem_cons_of_mem _ (List.mem_filter.mpr ⟨zlv_mem.mpr ⟨w, h2, rfl⟩, ?_⟩))
    simp only [Bool.and_eq_true, Bool.not_eq_true', beq_eq_false_iff_ne, ne_eq, Bool.and_eq_false_iff, zsh_cat]
    refine ⟨h1, ?_⟩
    by_cases q : j + 1 = i
    · exact Or.inr (fun z => h3 ⟨q, z⟩)
    · exact Or.inl q
theorem zLs.set2 {b B n i : Nat} {LL : zL} {ls ls' : Array Slot} {v : Value} (h : zLs b B n LL ls) (h' : lv_has ls' n ((i, zsh b B v) :: (zlv b B LL).filter (fun q => !(q.1 == i) && (!(q.1 == i + 1) && !(q.1 + 1 == i && q.2.category == 2))))) : zLs b B n (zset2 LL i v) ls' := by
  refine ⟨by rw [zset2_len]; exact h.1, h'.1, h'.2.1, fun j w hj => ?_⟩
  rcases zset2_get LL i v j w hj with ⟨rfl, rfl⟩ | ⟨h1, h2, h3, h4⟩
  · exact h'.2.2 (j, _) List.mem_cons_self
  · refine h'.2.2 (j, zsh b B w) (List.mem_cons_of_mem _ (List.mem_filter.mpr ⟨zlv_mem.mpr ⟨w, h3, rfl⟩, ?_⟩))
    simp only [Bool.and_eq_true, Bool.not_eq_true', beq_eq_false_iff_ne, ne_eq, Bool.and_eq_false_iff, zsh_cat]
    refine ⟨h1, h2, ?_⟩
    by_cases q : j + 1 = i
    · exact Or.inr (fun z => h4 ⟨q, z⟩)
    · exact Or.inl q
theorem zLs.entry {b B n : Nat} {vs : List Value} (hl : (zlocs vs).length ≤ n) : zLs b B n (zlocs vs ++ List.replicate (n - (zlocs vs).length) none) ((lg_sl (vs.map (zsh b B)) ++ List.replicate (n - (lg_sl (vs.map (zsh b B))).length) Slot.unset).toArray) := by
  have hlen : ∀ us : List Value, (lg_sl (us.map (zsh b B))).length = (zlocs us).length := by
    intro us
    induction us with
    | nil => rfl
    | cons v t ih =>
      by_cases hc : v.category = 2
      · simp [lg_sl, zlocs, hc, zsh_cat] at ih ⊢; omega
      · simp [lg_sl, zlocs, hc, zsh_cat] at ih ⊢; omega
  have key : ∀ (us : List Value) (i : Nat) (v : Value), (zlocs us)[i]? = some (some v) → (lg_sl (us.map (zsh b B)))[i]? = some (.val (zsh b B v)) := by
    intro us
    induction us with
    | nil => intro i v h; simp [zlocs] at h
    | cons u t ih =>
      intro i v h
      by_cases hc : u.category = 2
      · have e1 : zlocs (u :: t) = some u :: none :: zlocs t := by simp [zlocs, hc]
        have e2 : lg_sl ((u :: t).map (zsh b B)) = .val (zsh b B u) :: .second :: lg_sl (t.map (zsh b B)) := by simp [lg_sl, hc, zsh_cat]
        rw [e1] at h
        rw [e2]
        match i, h with
        | 0, h => simp at h; subst h; rfl
        | 1, h => simp at h
        | i + 2, h => simp at h ⊢; exact ih i v h
      · have e1 : zlocs (u :: t) = some u :: zlocs t := by simp [zlocs, hc]
        have e2 : lg_sl ((u :: t).map (zsh b B)) = .val (zsh b B u) :: lg_sl (t.map (zsh b B)) := by simp [lg_sl, hc, zsh_cat]
        rw [e1] at h
        rw [e2]
        match i, h with
        | 0, h => simp at h; subst h; rfl
        | i + 1, h => simp at h ⊢; exact ih i v h
  have hh := lv_entry (vs.map (zsh b B)) (n := n) (by rw [hlen]; exact hl)
  refine ⟨by simp; omega, hh.1, hh.2.1, fun i v hv => ?_⟩
  by_cases hi : i < (zlocs vs).length
  · rw [List.getElem?_append_left hi] at hv
    have := key vs i v hv
    simp only [List.getElem?_toArray]
    rw [List.getElem?_append_left (by rw [hlen]; exact hi)]
    exact this
  · rw [List.getElem?_append_right (by omega), List.getElem?_replicate] at hv
    split at hv <;> simp at hv
