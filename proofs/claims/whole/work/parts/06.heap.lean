/-! rows of fields, arrays, calls -/
def gz_wi (g : gz_S) (j k : Nat) (v : Int32) : gz_S := (fun i => if i = j then upd (g.1 i) k v else g.1 i, g.2.1, g.2.2)
def gz_wl (g : gz_S) (j k : Nat) (v : Int64) : gz_S := (g.1, fun i => if i = j then vp_updL (g.2.1 i) k v else g.2.1 i, g.2.2)
def gz_wd (g : gz_S) (d : Nat) (v : Option Nat) : gz_S := (g.1, g.2.1, fun i => if i = d then v else g.2.2 i)
def gz_wa (g : gz_S) (j : Nat) (f : Nat → Int32) : gz_S := (fun i => if i = j then f else g.1 i, g.2.1, g.2.2)
section GZC
variable {cs : Nat → ClassId} {La : gz_L} {a : Nat → Nat} {g : gz_S} {j ci n : Nat}
theorem gz_ceO (hk : gz_kd La j = (0, ci)) : gz_ce cs La a g j = .inr (ci, (List.range (gz_nf ci)).map (gz_fv La a g j ci)) := by
  unfold gz_ce; rw [hk]; rfl
theorem gz_ce1 (hk : gz_kd La j = (1, n)) : gz_ce cs La a g j = .inl (cs 0, n, .inl (g.1 j)) := by
  unfold gz_ce; rw [hk]; rfl
theorem gz_ce2 (hk : gz_kd La j = (2, n)) : gz_ce cs La a g j = .inl (cs 1, n, .inl (g.1 j)) := by
  unfold gz_ce; rw [hk]; rfl
theorem gz_ce3 (hk : gz_kd La j = (3, n)) : gz_ce cs La a g j = .inl (cs 2, n, .inr (.inl (g.2.1 j))) := by
  unfold gz_ce; rw [hk]; rfl
theorem gz_ce4 (hk : gz_kd La j = (4, n)) : gz_ce cs La a g j = .inl (cs 3, n, .inr (.inr (.inr (.inr (fun i => (gz_rf La g j i).map a))))) := by
  unfold gz_ce; rw [hk]; rfl
theorem gz_ce5 (hk : gz_kd La j = (5, n)) : gz_ce cs La a g j = .inl (cs 4, n, .inr (.inr (.inr (.inr (fun i => (gz_rf La g j i).map a))))) := by
  unfold gz_ce; rw [hk]; rfl
theorem gz_ce_wi {k : Nat} {v : Int32} : ∀ i, i ≠ j → gz_ce cs La a (gz_wi g j k v) i = gz_ce cs La a g i := by
  intro i hi
  have e : (gz_wi g j k v).1 i = g.1 i := by unfold gz_wi; exact if_neg hi
  have e2 : ∀ q, gz_fv La a (gz_wi g j k v) i q = gz_fv La a g i q := by
    intro q; funext k2; unfold gz_fv; rw [e]; rfl
  unfold gz_ce; rw [e, e2]; rfl
theorem gz_ce_wa {f : Nat → Int32} : ∀ i, i ≠ j → gz_ce cs La a (gz_wa g j f) i = gz_ce cs La a g i := by
  intro i hi
  have e : (gz_wa g j f).1 i = g.1 i := by unfold gz_wa; exact if_neg hi
  have e2 : ∀ q, gz_fv La a (gz_wa g j f) i q = gz_fv La a g i q := by
    intro q; funext k2; unfold gz_fv; rw [e]; rfl
  unfold gz_ce; rw [e, e2]; rfl
theorem gz_ce_wl {k : Nat} {v : Int64} : ∀ i, i ≠ j → gz_ce cs La a (gz_wl g j k v) i = gz_ce cs La a g i := by
  intro i hi
  have e : (gz_wl g j k v).2.1 i = g.2.1 i := by unfold gz_wl; exact if_neg hi
  have e2 : ∀ q, gz_fv La a (gz_wl g j k v) i q = gz_fv La a g i q := by
    intro q; funext k2; unfold gz_fv; rw [e]; rfl
  unfold gz_ce; rw [e, e2]; rfl
theorem gz_setmap {f f' : Nat → Value} {N k : Nat} {v : Value} (hv : f' k = v) (ho : ∀ i, i < N → i ≠ k → f' i = f i) : (List.range N).map f' = ((List.range N).map f).set k v := by
  apply List.ext_getElem?
  intro i
  rw [List.getElem?_set, List.getElem?_map, List.getElem?_map]
  by_cases hi : i < N
  · rw [List.getElem?_range hi]
    by_cases hk : k = i
    · subst hk
      rw [if_pos rfl, if_pos (by simpa using hi)]
      simp [hv]
    · rw [if_neg hk]
      simp only [Option.map_some]
      rw [ho i hi (Ne.symm hk)]
  · have hn : (List.range N)[i]? = none := by rw [List.getElem?_eq_none]; simpa using hi
    rw [hn]
    by_cases hk : k = i
    · subst hk
      rw [if_pos rfl, if_neg (by simpa using hi)]
      rfl
    · rw [if_neg hk]; rfl
theorem gz_ceO_wi {k : Nat} {v : Int32} (hk : gz_kd La j = (0, ci)) (ht : gz_ft ci k = 0) : gz_ce cs La a (gz_wi g j k v) j = .inr (ci, ((List.range (gz_nf ci)).map (gz_fv La a g j ci)).set k (.int v)) := by
  rw [gz_ceO hk]
  congr 2
  refine gz_setmap ?_ ?_
  · unfold gz_fv; rw [if_pos ht]; unfold gz_wi; simp [upd]
  · intro i _ hi
    have e : (gz_wi g j k v).1 j i = g.1 j i := by unfold gz_wi; simp [upd, hi]
    unfold gz_fv; rw [e]; rfl
theorem gz_ceO_wl {k : Nat} {v : Int64} (hk : gz_kd La j = (0, ci)) (ht : gz_ft ci k = 1) : gz_ce cs La a (gz_wl g j k v) j = .inr (ci, ((List.range (gz_nf ci)).map (gz_fv La a g j ci)).set k (.long v)) := by
  rw [gz_ceO hk]
  congr 2
  refine gz_setmap ?_ ?_
  · unfold gz_fv; rw [if_neg (by rw [ht]; decide), if_pos ht]; unfold gz_wl; simp [vp_updL]
  · intro i _ hi
    have e : (gz_wl g j k v).2.1 j i = g.2.1 j i := by unfold gz_wl; simp [vp_updL, hi]
    unfold gz_fv; rw [e]; rfl
theorem gz_rf_wd {d i k : Nat} {v : Option Nat} (hd : ¬ (d = 0 ∧ i = 8 ∧ k = 0)) (hd1 : ¬ (d = 1 ∧ i = 39 ∧ k = 5)) : gz_rf La (gz_wd g d v) i k = gz_rf La g i k := by
  unfold gz_rf gz_wd
  by_cases h1 : i = 8 ∧ k = 0
  · rw [if_pos h1, if_pos h1]
    exact if_neg (fun e => hd ⟨e.symm, h1⟩)
  · rw [if_neg h1, if_neg h1]
    by_cases h2 : i = 39 ∧ k = 5
    · rw [if_pos h2, if_pos h2]
      exact if_neg (fun e => hd1 ⟨e.symm, h2⟩)
    · rw [if_neg h2, if_neg h2]
theorem gz_ce_wd {d : Nat} {v : Option Nat} (hdj : (d = 0 ∧ j = 8) ∨ (d = 1 ∧ j = 39)) : ∀ i, i ≠ j → gz_ce cs La a (gz_wd g d v) i = gz_ce cs La a g i := by
  intro i hi
  have e : ∀ k, gz_rf La (gz_wd g d v) i k = gz_rf La g i k := fun k => gz_rf_wd (fun z => by omega) (fun z => by omega)
  have e2 : ∀ q, gz_fv La a (gz_wd g d v) i q = gz_fv La a g i q := by
    intro q; funext k2; unfold gz_fv; rw [e]; rfl
  have e3 : (fun k => (gz_rf La (gz_wd g d v) i k).map a) = (fun k => (gz_rf La g i k).map a) := by funext k; rw [e]
  unfold gz_ce; rw [e2, e3]; rfl
theorem gz_ceO_wd {d k : Nat} {v : Option Nat} (hk : gz_kd La j = (0, ci)) (ht : gz_ft ci k = 2) (hdj : (d = 0 ∧ j = 8 ∧ k = 0) ∨ (d = 1 ∧ j = 39 ∧ k = 5)) : gz_ce cs La a (gz_wd g d v) j = .inr (ci, ((List.range (gz_nf ci)).map (gz_fv La a g j ci)).set k (va_rf (v.map a))) := by
  rw [gz_ceO hk]
  congr 2
  refine gz_setmap ?_ ?_
  · unfold gz_fv; rw [if_neg (by rw [ht]; decide), if_neg (by rw [ht]; decide)]
    congr 2
    rcases hdj with ⟨rfl, rfl, rfl⟩ | ⟨rfl, rfl, rfl⟩
    · unfold gz_rf gz_wd; rw [if_pos ⟨rfl, rfl⟩]; rfl
    · unfold gz_rf gz_wd; rw [if_neg (by decide), if_pos ⟨rfl, rfl⟩]; rfl
  · intro i _ hi
    have e : gz_rf La (gz_wd g d v) j i = gz_rf La g j i := gz_rf_wd (fun z => by omega) (fun z => by omega)
    unfold gz_fv; rw [e]; rfl
theorem gz_fvget {k : Nat} (hk : k < gz_nf ci) : ((List.range (gz_nf ci)).map (gz_fv La a g j ci))[k]? = some (gz_fv La a g j ci k) := by
  rw [List.getElem?_map, List.getElem?_range hk]; rfl
end GZC
section SZH
variable {La : gz_L} {h : Nat} {M : gz_M} {pc : Nat} {ls : List (Option Value)} {st : List Value} {g : gz_S} {Ph : Option Value → gz_S → Prop}
theorem sz_getI {j ci k ix : Nat} (hd : decode M.2.1 pc = .ok (.getfield ix, 3)) (hf : gz_fl M.1.cls ix ci k) (hk : gz_kd La j = (0, ci)) (ht : gz_ft ci k = 0) (n : gz_J La h M (pc + 3) ls (.int (g.1 j k) :: st) g Ph) : gz_J La h M pc ls (.ref j :: st) g Ph := by
  intro p l e s m args below meth c D cs a A H locs lsA C hP hD hS hl
  obtain ⟨q, -, hq⟩ := gz_at (cs := cs) (a := a) (g := g) (La := La) (j := j) (by rw [hk]; exact (by decide : 0 < 9))
  rw [gz_ceO hk] at hq
  have hv : gz_fv La a g j ci k = gz_cv a (.int (g.1 j k)) := by
    unfold gz_fv; rw [if_pos ht]; rfl
  exact va_get (D := D) (v := gz_cv a (.int (g.1 j k))) (C := gz_kR ci) (T := gz_kT ci) (N := gz_nf ci) C.1 C.2.1 C.2.2.2.2.2.2.1 (fun w hw => List.mem_cons_of_mem _ (gz_uw hf.1 w hw)) C.2.2.2.2.2.1 C.2.2.2.2.2.2.2.1 hP q hq (gz_cl hf.1) k hf.2.1 (C.2.2.2.2.2.2.1 _ (List.mem_cons_of_mem _ hf.2.2)) (fun _ h => h) (by rw [gz_fvget hf.2.1, hv]) hd (n p l e s m args below meth c D cs a A H locs lsA C hP hD hS hl)
theorem sz_getJ {j ci k ix : Nat} (hd : decode M.2.1 pc = .ok (.getfield ix, 3)) (hf : gz_fl M.1.cls ix ci k) (hk : gz_kd La j = (0, ci)) (ht : gz_ft ci k = 1) (n : gz_J La h M (pc + 3) ls (.long (g.2.1 j k) :: st) g Ph) : gz_J La h M pc ls (.ref j :: st) g Ph := by
  intro p l e s m args below meth c D cs a A H locs lsA C hP hD hS hl
  obtain ⟨q, -, hq⟩ := gz_at (cs := cs) (a := a) (g := g) (La := La) (j := j) (by rw [hk]; exact (by decide : 0 < 9))
  rw [gz_ceO hk] at hq
  have hv : gz_fv La a g j ci k = gz_cv a (.long (g.2.1 j k)) := by
    unfold gz_fv; rw [if_neg (by rw [ht]; decide), if_pos ht]; rfl
  exact va_get (D := D) (v := gz_cv a (.long (g.2.1 j k))) (C := gz_kR ci) (T := gz_kT ci) (N := gz_nf ci) C.1 C.2.1 C.2.2.2.2.2.2.1 (fun w hw => List.mem_cons_of_mem _ (gz_uw hf.1 w hw)) C.2.2.2.2.2.1 C.2.2.2.2.2.2.2.1 hP q hq (gz_cl hf.1) k hf.2.1 (C.2.2.2.2.2.2.1 _ (List.mem_cons_of_mem _ hf.2.2)) (fun _ h => h) (by rw [gz_fvget hf.2.1, hv]) hd (n p l e s m args below meth c D cs a A H locs lsA C hP hD hS hl)
theorem sz_getR {j ci k ix : Nat} {j2 : Nat} (hd : decode M.2.1 pc = .ok (.getfield ix, 3)) (hf : gz_fl M.1.cls ix ci k) (hk : gz_kd La j = (0, ci)) (ht : gz_ft ci k = 2) (hr : gz_rf La g j k = some j2) (n : gz_J La h M (pc + 3) ls (.ref j2 :: st) g Ph) : gz_J La h M pc ls (.ref j :: st) g Ph := by
  intro p l e s m args below meth c D cs a A H locs lsA C hP hD hS hl
  obtain ⟨q, -, hq⟩ := gz_at (cs := cs) (a := a) (g := g) (La := La) (j := j) (by rw [hk]; exact (by decide : 0 < 9))
  rw [gz_ceO hk] at hq
  have hv : gz_fv La a g j ci k = gz_cv a (.ref j2) := by
    unfold gz_fv; rw [if_neg (by rw [ht]; decide), if_neg (by rw [ht]; decide), hr]; rfl
  exact va_get (D := D) (v := gz_cv a (.ref j2)) (C := gz_kR ci) (T := gz_kT ci) (N := gz_nf ci) C.1 C.2.1 C.2.2.2.2.2.2.1 (fun w hw => List.mem_cons_of_mem _ (gz_uw hf.1 w hw)) C.2.2.2.2.2.1 C.2.2.2.2.2.2.2.1 hP q hq (gz_cl hf.1) k hf.2.1 (C.2.2.2.2.2.2.1 _ (List.mem_cons_of_mem _ hf.2.2)) (fun _ h => h) (by rw [gz_fvget hf.2.1, hv]) hd (n p l e s m args below meth c D cs a A H locs lsA C hP hD hS hl)
theorem sz_getN {j ci k ix : Nat} (hd : decode M.2.1 pc = .ok (.getfield ix, 3)) (hf : gz_fl M.1.cls ix ci k) (hk : gz_kd La j = (0, ci)) (ht : gz_ft ci k = 2) (hr : gz_rf La g j k = none) (n : gz_J La h M (pc + 3) ls (.null :: st) g Ph) : gz_J La h M pc ls (.ref j :: st) g Ph := by
  intro p l e s m args below meth c D cs a A H locs lsA C hP hD hS hl
  obtain ⟨q, -, hq⟩ := gz_at (cs := cs) (a := a) (g := g) (La := La) (j := j) (by rw [hk]; exact (by decide : 0 < 9))
  rw [gz_ceO hk] at hq
  have hv : gz_fv La a g j ci k = gz_cv a (.null) := by
    unfold gz_fv; rw [if_neg (by rw [ht]; decide), if_neg (by rw [ht]; decide), hr]; rfl
  exact va_get (D := D) (v := gz_cv a (.null)) (C := gz_kR ci) (T := gz_kT ci) (N := gz_nf ci) C.1 C.2.1 C.2.2.2.2.2.2.1 (fun w hw => List.mem_cons_of_mem _ (gz_uw hf.1 w hw)) C.2.2.2.2.2.1 C.2.2.2.2.2.2.2.1 hP q hq (gz_cl hf.1) k hf.2.1 (C.2.2.2.2.2.2.1 _ (List.mem_cons_of_mem _ hf.2.2)) (fun _ h => h) (by rw [gz_fvget hf.2.1, hv]) hd (n p l e s m args below meth c D cs a A H locs lsA C hP hD hS hl)
theorem sz_putI {j ci k ix : Nat} {v : Int32} (hd : decode M.2.1 pc = .ok (.putfield ix, 3)) (hf : gz_fl M.1.cls ix ci k) (hk : gz_kd La j = (0, ci)) (ht : gz_ft ci k = 0) (hn : narrow (gz_kY ci k) (.int v) = .int v) (hft : fits (gz_kY ci k) (.int v) = true) (hfin : (gz_kT ci k).2.2.2 = false) (n : gz_J La h M (pc + 3) ls st (gz_wi g j k v) Ph) : gz_J La h M pc ls (.int v :: .ref j :: st) g Ph := by
  intro p l e s m args below meth c D cs a A H locs lsA C hP hD hS hl
  obtain ⟨q, hq0, hq⟩ := gz_at (cs := cs) (a := a) (g := g) (La := La) (j := j) (by rw [hk]; exact (by decide : 0 < 9))
  rw [gz_ceO hk] at hq
  refine va_put (D := D) (ty := gz_kY ci k) (C := gz_kR ci) (T := gz_kT ci) (N := gz_nf ci) C.1 C.2.1 C.2.2.2.2.2.2.1 (fun w hw => List.mem_cons_of_mem _ (gz_uw hf.1 w hw)) (gz_kY ci) (gz_tyok hf.1) (gz_nmok hf.1) C.2.2.2.2.2.1 C.2.2.2.2.2.2.2.1 hP hD hS q hq (gz_cl hf.1) k hf.2.1 (C.2.2.2.2.2.2.1 _ (List.mem_cons_of_mem _ hf.2.2)) (fun _ h => h) hfin (gz_tyok hf.1 k hf.2.1) hn hft (by simpa using hf.2.1) hd (fun H locs hP hD2 hS => ?_)
  have ew : (gz_w cs La a g).set q (a j, .inr (ci, ((List.range (gz_nf ci)).map (gz_fv La a g j ci)).set k (gz_cv a (.int v)))) = gz_w cs La a (gz_wi g j k v) := gz_set hD hq0 (gz_ceO_wi hk ht) gz_ce_wi
  exact (n p l e s m args below meth c D cs a A H locs lsA C (ew ▸ hP) (ew ▸ hD2) hS hl)
theorem sz_putJ {j ci k ix : Nat} {v : Int64} (hd : decode M.2.1 pc = .ok (.putfield ix, 3)) (hf : gz_fl M.1.cls ix ci k) (hk : gz_kd La j = (0, ci)) (ht : gz_ft ci k = 1) (hn : narrow (gz_kY ci k) (.long v) = .long v) (hft : fits (gz_kY ci k) (.long v) = true) (hfin : (gz_kT ci k).2.2.2 = false) (n : gz_J La h M (pc + 3) ls st (gz_wl g j k v) Ph) : gz_J La h M pc ls (.long v :: .ref j :: st) g Ph := by
  intro p l e s m args below meth c D cs a A H locs lsA C hP hD hS hl
  obtain ⟨q, hq0, hq⟩ := gz_at (cs := cs) (a := a) (g := g) (La := La) (j := j) (by rw [hk]; exact (by decide : 0 < 9))
  rw [gz_ceO hk] at hq
  refine va_put (D := D) (ty := gz_kY ci k) (C := gz_kR ci) (T := gz_kT ci) (N := gz_nf ci) C.1 C.2.1 C.2.2.2.2.2.2.1 (fun w hw => List.mem_cons_of_mem _ (gz_uw hf.1 w hw)) (gz_kY ci) (gz_tyok hf.1) (gz_nmok hf.1) C.2.2.2.2.2.1 C.2.2.2.2.2.2.2.1 hP hD hS q hq (gz_cl hf.1) k hf.2.1 (C.2.2.2.2.2.2.1 _ (List.mem_cons_of_mem _ hf.2.2)) (fun _ h => h) hfin (gz_tyok hf.1 k hf.2.1) hn hft (by simpa using hf.2.1) hd (fun H locs hP hD2 hS => ?_)
  have ew : (gz_w cs La a g).set q (a j, .inr (ci, ((List.range (gz_nf ci)).map (gz_fv La a g j ci)).set k (gz_cv a (.long v)))) = gz_w cs La a (gz_wl g j k v) := gz_set hD hq0 (gz_ceO_wl hk ht) gz_ce_wl
  exact (n p l e s m args below meth c D cs a A H locs lsA C (ew ▸ hP) (ew ▸ hD2) hS hl)
theorem sz_putD {j ci k ix : Nat} {d v : Nat} (hd : decode M.2.1 pc = .ok (.putfield ix, 3)) (hf : gz_fl M.1.cls ix ci k) (hk : gz_kd La j = (0, ci)) (ht : gz_ft ci k = 2) (hdj : (d = 0 ∧ j = 8 ∧ k = 0) ∨ (d = 1 ∧ j = 39 ∧ k = 5)) (hn : ∀ z, narrow (gz_kY ci k) (.ref z) = .ref z) (hft : ∀ z, fits (gz_kY ci k) (.ref z) = true) (hfin : (gz_kT ci k).2.2.2 = false) (n : gz_J La h M (pc + 3) ls st (gz_wd g d (some v)) Ph) : gz_J La h M pc ls (.ref v :: .ref j :: st) g Ph := by
  intro p l e s m args below meth c D cs a A H locs lsA C hP hD hS hl
  obtain ⟨q, hq0, hq⟩ := gz_at (cs := cs) (a := a) (g := g) (La := La) (j := j) (by rw [hk]; exact (by decide : 0 < 9))
  rw [gz_ceO hk] at hq
  refine va_put (D := D) (ty := gz_kY ci k) (C := gz_kR ci) (T := gz_kT ci) (N := gz_nf ci) C.1 C.2.1 C.2.2.2.2.2.2.1 (fun w hw => List.mem_cons_of_mem _ (gz_uw hf.1 w hw)) (gz_kY ci) (gz_tyok hf.1) (gz_nmok hf.1) C.2.2.2.2.2.1 C.2.2.2.2.2.2.2.1 hP hD hS q hq (gz_cl hf.1) k hf.2.1 (C.2.2.2.2.2.2.1 _ (List.mem_cons_of_mem _ hf.2.2)) (fun _ h => h) hfin (gz_tyok hf.1 k hf.2.1) (hn _) (hft _) (by simpa using hf.2.1) hd (fun H locs hP hD2 hS => ?_)
  have ew : (gz_w cs La a g).set q (a j, .inr (ci, ((List.range (gz_nf ci)).map (gz_fv La a g j ci)).set k (gz_cv a (.ref v)))) = gz_w cs La a (gz_wd g d (some v)) := gz_set hD hq0 (gz_ceO_wd hk ht hdj) (gz_ce_wd (by omega))
  exact (n p l e s m args below meth c D cs a A H locs lsA C (ew ▸ hP) (ew ▸ hD2) hS hl)
theorem sz_putN {j ci k ix : Nat} {d : Nat} (hd : decode M.2.1 pc = .ok (.putfield ix, 3)) (hf : gz_fl M.1.cls ix ci k) (hk : gz_kd La j = (0, ci)) (ht : gz_ft ci k = 2) (hdj : (d = 0 ∧ j = 8 ∧ k = 0) ∨ (d = 1 ∧ j = 39 ∧ k = 5)) (hn : narrow (gz_kY ci k) .null = .null) (hft : fits (gz_kY ci k) .null = true) (hfin : (gz_kT ci k).2.2.2 = false) (n : gz_J La h M (pc + 3) ls st (gz_wd g d none) Ph) : gz_J La h M pc ls (.null :: .ref j :: st) g Ph := by
  intro p l e s m args below meth c D cs a A H locs lsA C hP hD hS hl
  obtain ⟨q, hq0, hq⟩ := gz_at (cs := cs) (a := a) (g := g) (La := La) (j := j) (by rw [hk]; exact (by decide : 0 < 9))
  rw [gz_ceO hk] at hq
  refine va_put (D := D) (ty := gz_kY ci k) (C := gz_kR ci) (T := gz_kT ci) (N := gz_nf ci) C.1 C.2.1 C.2.2.2.2.2.2.1 (fun w hw => List.mem_cons_of_mem _ (gz_uw hf.1 w hw)) (gz_kY ci) (gz_tyok hf.1) (gz_nmok hf.1) C.2.2.2.2.2.1 C.2.2.2.2.2.2.2.1 hP hD hS q hq (gz_cl hf.1) k hf.2.1 (C.2.2.2.2.2.2.1 _ (List.mem_cons_of_mem _ hf.2.2)) (fun _ h => h) hfin (gz_tyok hf.1 k hf.2.1) hn hft (by simpa using hf.2.1) hd (fun H locs hP hD2 hS => ?_)
  have ew : (gz_w cs La a g).set q (a j, .inr (ci, ((List.range (gz_nf ci)).map (gz_fv La a g j ci)).set k (gz_cv a (.null)))) = gz_w cs La a (gz_wd g d none) := gz_set hD hq0 (gz_ceO_wd hk ht hdj) (gz_ce_wd (by omega))
  exact (n p l e s m args below meth c D cs a A H locs lsA C (ew ▸ hP) (ew ▸ hD2) hS hl)
theorem sz_iald {j N : Nat} {i : Int32} (hd : decode M.2.1 pc = .ok (.iaload, 1)) (hk : gz_kd La j = (1, N)) (hin : vp_in i N) (n : gz_J La h M (pc + 1) ls (.int (g.1 j i.toNatClampNeg) :: st) g Ph) : gz_J La h M pc ls (.int i :: .ref j :: st) g Ph := by
  intro p l e s m args below meth c D cs a A H locs lsA C hP hD hS hl
  obtain ⟨q, -, hq⟩ := gz_at (cs := cs) (a := a) (g := g) (La := La) (j := j) (by rw [hk]; exact (by decide : 1 < 9))
  rw [gz_ce1 hk] at hq
  exact va_iald C.1 C.2.1 C.2.2.2.2.2.2.2.1 hP q 0 hq rfl hin hd (n p l e s m args below meth c D cs a A H locs lsA C hP hD hS hl)
theorem sz_bald {j N : Nat} {i : Int32} (hd : decode M.2.1 pc = .ok (.baload, 1)) (hk : gz_kd La j = (2, N)) (hin : vp_in i N) (n : gz_J La h M (pc + 1) ls (.int (g.1 j i.toNatClampNeg) :: st) g Ph) : gz_J La h M pc ls (.int i :: .ref j :: st) g Ph := by
  intro p l e s m args below meth c D cs a A H locs lsA C hP hD hS hl
  obtain ⟨q, -, hq⟩ := gz_at (cs := cs) (a := a) (g := g) (La := La) (j := j) (by rw [hk]; exact (by decide : 2 < 9))
  rw [gz_ce2 hk] at hq
  exact va_bald C.1 C.2.1 C.2.2.2.2.2.2.2.1 hP q 1 hq rfl hin hd (n p l e s m args below meth c D cs a A H locs lsA C hP hD hS hl)
theorem sz_iast {j N : Nat} {i x : Int32} (hd : decode M.2.1 pc = .ok (.iastore, 1)) (hk : gz_kd La j = (1, N)) (hin : vp_in i N) (n : gz_J La h M (pc + 1) ls st (gz_wi g j i.toNatClampNeg x) Ph) : gz_J La h M pc ls (.int x :: .int i :: .ref j :: st) g Ph := by
  intro p l e s m args below meth c D cs a A H locs lsA C hP hD hS hl
  obtain ⟨q, hq0, hq⟩ := gz_at (cs := cs) (a := a) (g := g) (La := La) (j := j) (by rw [hk]; exact (by decide : 1 < 9))
  rw [gz_ce1 hk] at hq
  refine va_iast C.1 C.2.1 C.2.2.2.2.2.2.2.1 hP hD hS q 0 hq rfl hin hd (fun H locs hP hD2 hS => ?_)
  have ew := gz_set (cs := cs) (g' := gz_wi g j i.toNatClampNeg x) hD hq0 (gz_ce1 hk) gz_ce_wi
  have e1 : (gz_wi g j i.toNatClampNeg x).1 j = upd (g.1 j) i.toNatClampNeg x := if_pos rfl
  rw [e1] at ew
  exact (n p l e s m args below meth c D cs a A H locs lsA C (ew ▸ hP) (ew ▸ hD2) hS hl)
theorem sz_bast {j N : Nat} {i x : Int32} (hd : decode M.2.1 pc = .ok (.bastore, 1)) (hk : gz_kd La j = (2, N)) (hin : vp_in i N) (n : gz_J La h M (pc + 1) ls st (gz_wi g j i.toNatClampNeg (vp_nar .byte x)) Ph) : gz_J La h M pc ls (.int x :: .int i :: .ref j :: st) g Ph := by
  intro p l e s m args below meth c D cs a A H locs lsA C hP hD hS hl
  obtain ⟨q, hq0, hq⟩ := gz_at (cs := cs) (a := a) (g := g) (La := La) (j := j) (by rw [hk]; exact (by decide : 2 < 9))
  rw [gz_ce2 hk] at hq
  refine va_bast C.1 C.2.1 C.2.2.2.2.2.2.2.1 hP hD hS q 1 hq rfl hin hd (fun H locs hP hD2 hS => ?_)
  have ew := gz_set (cs := cs) (g' := gz_wi g j i.toNatClampNeg (vp_nar .byte x)) hD hq0 (gz_ce2 hk) gz_ce_wi
  have e1 : (gz_wi g j i.toNatClampNeg (vp_nar .byte x)).1 j = upd (g.1 j) i.toNatClampNeg (vp_nar .byte x) := if_pos rfl
  rw [e1] at ew
  exact (n p l e s m args below meth c D cs a A H locs lsA C (ew ▸ hP) (ew ▸ hD2) hS hl)
theorem sz_aald4q {j N j2 : Nat} {i : Int32} (hd : decode M.2.1 pc = .ok (.aaload, 1)) (hk : gz_kd La j = (4, N)) (hin : vp_in i N) (hr : gz_rf La g j i.toNatClampNeg = some j2) (n : gz_J La h M (pc + 1) ls (.ref j2 :: st) g Ph) : gz_J La h M pc ls (.int i :: .ref j :: st) g Ph := by
  intro p l e s m args below meth c D cs a A H locs lsA C hP hD hS hl
  obtain ⟨q, -, hq⟩ := gz_at (cs := cs) (a := a) (g := g) (La := La) (j := j) (by rw [hk]; exact (by decide : 4 < 9))
  rw [gz_ce4 hk] at hq
  refine va_aldq C.1 C.2.1 C.2.2.2.2.2.2.2.1 hP q 3 hq rfl hin hd ?_
  rw [hr]
  exact (n p l e s m args below meth c D cs a A H locs lsA C hP hD hS hl)
theorem sz_aald4n {j N : Nat} {i : Int32} (hd : decode M.2.1 pc = .ok (.aaload, 1)) (hk : gz_kd La j = (4, N)) (hin : vp_in i N) (hr : gz_rf La g j i.toNatClampNeg = none) (n : gz_J La h M (pc + 1) ls (.null :: st) g Ph) : gz_J La h M pc ls (.int i :: .ref j :: st) g Ph := by
  intro p l e s m args below meth c D cs a A H locs lsA C hP hD hS hl
  obtain ⟨q, -, hq⟩ := gz_at (cs := cs) (a := a) (g := g) (La := La) (j := j) (by rw [hk]; exact (by decide : 4 < 9))
  rw [gz_ce4 hk] at hq
  refine va_aldq C.1 C.2.1 C.2.2.2.2.2.2.2.1 hP q 3 hq rfl hin hd ?_
  rw [hr]
  exact (n p l e s m args below meth c D cs a A H locs lsA C hP hD hS hl)
theorem sz_aald5q {j N j2 : Nat} {i : Int32} (hd : decode M.2.1 pc = .ok (.aaload, 1)) (hk : gz_kd La j = (5, N)) (hin : vp_in i N) (hr : gz_rf La g j i.toNatClampNeg = some j2) (n : gz_J La h M (pc + 1) ls (.ref j2 :: st) g Ph) : gz_J La h M pc ls (.int i :: .ref j :: st) g Ph := by
  intro p l e s m args below meth c D cs a A H locs lsA C hP hD hS hl
  obtain ⟨q, -, hq⟩ := gz_at (cs := cs) (a := a) (g := g) (La := La) (j := j) (by rw [hk]; exact (by decide : 5 < 9))
  rw [gz_ce5 hk] at hq
  refine va_aldq C.1 C.2.1 C.2.2.2.2.2.2.2.1 hP q 4 hq rfl hin hd ?_
  rw [hr]
  exact (n p l e s m args below meth c D cs a A H locs lsA C hP hD hS hl)
theorem sz_aald5n {j N : Nat} {i : Int32} (hd : decode M.2.1 pc = .ok (.aaload, 1)) (hk : gz_kd La j = (5, N)) (hin : vp_in i N) (hr : gz_rf La g j i.toNatClampNeg = none) (n : gz_J La h M (pc + 1) ls (.null :: st) g Ph) : gz_J La h M pc ls (.int i :: .ref j :: st) g Ph := by
  intro p l e s m args below meth c D cs a A H locs lsA C hP hD hS hl
  obtain ⟨q, -, hq⟩ := gz_at (cs := cs) (a := a) (g := g) (La := La) (j := j) (by rw [hk]; exact (by decide : 5 < 9))
  rw [gz_ce5 hk] at hq
  refine va_aldq C.1 C.2.1 C.2.2.2.2.2.2.2.1 hP q 4 hq rfl hin hd ?_
  rw [hr]
  exact (n p l e s m args below meth c D cs a A H locs lsA C hP hD hS hl)
theorem sz_alen {j kn N : Nat} {v : Int32} (hd : decode M.2.1 pc = .ok (.arraylength, 1)) (hk : gz_kd La j = (1, N)) (hv : Int32.ofNat N = v) (n : gz_J La h M (pc + 1) ls (.int v :: st) g Ph) : gz_J La h M pc ls (.ref j :: st) g Ph := by
  intro p l e s m args below meth c D cs a A H locs lsA C hP hD hS hl
  obtain ⟨q, -, hq⟩ := gz_at (cs := cs) (a := a) (g := g) (La := La) (j := j) (by rw [hk]; exact (by decide : 1 < 9))
  rw [gz_ce1 hk] at hq
  exact va_alen C.1 C.2.1 C.2.2.2.2.2.2.2.1 hP q 0 hq rfl hv hd (n p l e s m args below meth c D cs a A H locs lsA C hP hD hS hl)
theorem sz_gs0 {ix : Nat} (hd : decode M.2.1 pc = .ok (.getstatic ix, 3)) (hw : Cond.fieldLink M.1.cls ix "PrintsGoOn$ShoreReader" "RULE_ITEMS" "[I" ∈ gz_U) (n : gz_J La h M (pc + 3) ls (.ref 200 :: st) g Ph) : gz_J La h M pc ls st g Ph := by
  intro p l e s m args below meth c D cs a A H locs lsA C hP hD hS hl
  exact va_gets C.1 C.2.1 C.2.2.2.2.2.2.2.2.1.1.1.1 hS C.2.2.2.2.2.1 (C.2.2.2.2.2.2.1 _ (List.mem_cons_of_mem _ hw)) (fun _ h => h) hd (n p l e s m args below meth c D cs a A H locs lsA C hP hD hS hl)
theorem sz_tb0 {i : Int32} (hd : decode M.2.1 pc = .ok (.iaload, 1)) (hin : vp_in i 16) (n : gz_J La h M (pc + 1) ls (.int (gz_t0 i.toNatClampNeg) :: st) g Ph) : gz_J La h M pc ls (.int i :: .ref 200 :: st) g Ph := by
  intro p l e s m args below meth c D cs a A H locs lsA C hP hD hS hl
  exact va_ti C.1 C.2.1 C.2.2.2.2.2.2.2.2.1.1.1.2 hS hin rfl hd (n p l e s m args below meth c D cs a A H locs lsA C hP hD hS hl)
theorem sz_gs1 {ix : Nat} (hd : decode M.2.1 pc = .ok (.getstatic ix, 3)) (hw : Cond.fieldLink M.1.cls ix "PrintsGoOn$ShoreReader" "GOER_ITEMS" "[I" ∈ gz_U) (n : gz_J La h M (pc + 3) ls (.ref 201 :: st) g Ph) : gz_J La h M pc ls st g Ph := by
  intro p l e s m args below meth c D cs a A H locs lsA C hP hD hS hl
  exact va_gets C.1 C.2.1 C.2.2.2.2.2.2.2.2.1.1.2.1.1 hS C.2.2.2.2.2.1 (C.2.2.2.2.2.2.1 _ (List.mem_cons_of_mem _ hw)) (fun _ h => h) hd (n p l e s m args below meth c D cs a A H locs lsA C hP hD hS hl)
theorem sz_tb1 {i : Int32} (hd : decode M.2.1 pc = .ok (.iaload, 1)) (hin : vp_in i 16) (n : gz_J La h M (pc + 1) ls (.int (gz_t1 i.toNatClampNeg) :: st) g Ph) : gz_J La h M pc ls (.int i :: .ref 201 :: st) g Ph := by
  intro p l e s m args below meth c D cs a A H locs lsA C hP hD hS hl
  exact va_ti C.1 C.2.1 C.2.2.2.2.2.2.2.2.1.1.2.1.2 hS hin rfl hd (n p l e s m args below meth c D cs a A H locs lsA C hP hD hS hl)
theorem sz_gs2 {ix : Nat} (hd : decode M.2.1 pc = .ok (.getstatic ix, 3)) (hw : Cond.fieldLink M.1.cls ix "PrintsGoOn$Law" "LETTER_SIGNS" "[C" ∈ gz_U) (n : gz_J La h M (pc + 3) ls (.ref 202 :: st) g Ph) : gz_J La h M pc ls st g Ph := by
  intro p l e s m args below meth c D cs a A H locs lsA C hP hD hS hl
  exact va_gets C.1 C.2.1 C.2.2.2.2.2.2.2.2.1.1.2.2.1 hS C.2.2.2.2.2.1 (C.2.2.2.2.2.2.1 _ (List.mem_cons_of_mem _ hw)) (fun _ h => h) hd (n p l e s m args below meth c D cs a A H locs lsA C hP hD hS hl)
theorem sz_tb2 {i : Int32} (hd : decode M.2.1 pc = .ok (.caload, 1)) (hin : vp_in i 6) (n : gz_J La h M (pc + 1) ls (.int (gz_t2 i.toNatClampNeg) :: st) g Ph) : gz_J La h M pc ls (.int i :: .ref 202 :: st) g Ph := by
  intro p l e s m args below meth c D cs a A H locs lsA C hP hD hS hl
  exact va_tc C.1 C.2.1 C.2.2.2.2.2.2.2.2.1.1.2.2.2 hS hin rfl hd (n p l e s m args below meth c D cs a A H locs lsA C hP hD hS hl)
def gz_tt (t i : Nat) : Int32 := if t = 200 then gz_t0 i else gz_t1 i
theorem sz_tt {t : Nat} {i : Int32} (ht : t = 200 ∨ t = 201) (hd : decode M.2.1 pc = .ok (.iaload, 1)) (hin : vp_in i 16) (n : gz_J La h M (pc + 1) ls (.int (gz_tt t i.toNatClampNeg) :: st) g Ph) : gz_J La h M pc ls (.int i :: .ref t :: st) g Ph := by
  rcases ht with rfl | rfl
  · exact sz_tb0 hd hin n
  · exact sz_tb1 hd hin n
end SZH
