theorem Pcg {D : va_G} {w w' : va_W} {H : Heap} (h : w = w') (hP : va_P D vwCl w H) : va_P D vwCl w' H := h ▸ hP
theorem Dcg {A : Nat → Prop} {w w' : va_W} (h : w = w') (hD : va_D A w) : va_D A w' := h ▸ hD
