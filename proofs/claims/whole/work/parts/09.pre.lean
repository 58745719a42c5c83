theorem gz_on0 {β : Type} {o : Option Nat} {a : Option β} {f : Nat → Option β} {r : β} (ho : o = none) (h : gz_on o a f = some r) : a = some r := by subst ho; exact h
theorem gz_on1 {β : Type} {o : Option Nat} {a : Option β} {f : Nat → Option β} {r : β} {e : Nat} (ho : o = some e) (h : gz_on o a f = some r) : f e = some r := by subst ho; exact h
theorem sz_ls {La : gz_L} {h : Nat} {M : gz_M} {pc : Nat} {ls l2 : List (Option Value)} {st : List Value} {g : gz_S} {Ph : Option Value → gz_S → Prop} (he : ls = l2) (n : gz_J La h M pc l2 st g Ph) : gz_J La h M pc ls st g Ph := by subst he; exact n
theorem rfd0 {La : gz_L} {g : gz_S} : gz_rf La g 8 0 = g.2.2 0 := rfl
theorem rfd1 {La : gz_L} {g : gz_S} : gz_rf La g 39 5 = g.2.2 1 := rfl
theorem sz_rfN {La : gz_L} {h : Nat} {M : gz_M} {pc : Nat} {ls : List (Option Value)} {st : List Value} {g : gz_S} {Ph : Option Value → gz_S → Prop} {o : Option Nat} (ho : o = none) (n : gz_J La h M pc ls (.null :: st) g Ph) : gz_J La h M pc ls (va_rf o :: st) g Ph := by subst ho; exact n
theorem sz_rfS {La : gz_L} {h : Nat} {M : gz_M} {pc : Nat} {ls : List (Option Value)} {st : List Value} {g : gz_S} {Ph : Option Value → gz_S → Prop} {o : Option Nat} {e : Nat} (ho : o = some e) (n : gz_J La h M pc ls (.ref e :: st) g Ph) : gz_J La h M pc ls (va_rf o :: st) g Ph := by subst ho; exact n
