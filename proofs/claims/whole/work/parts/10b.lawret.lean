theorem v_lawret {X : VX} {nL fr lo : Nat} {own : String} {ini : Bool} {sF s : vS} {pc : Nat} {ls : Array Slot} {b L : Nat} {xss : Nat → Int32} {x : Int32} (hdg : decode code pc = .ok (.ireturn, 1)) (h : some (x, s) = some ((1 : Int32), sF)) : V X (code, own, nL, fr, lo, ini) (vLaw b L xss) sF s (G0 X pc ls [.int x]) := by
  cases h
  refine ⟨Nat.le_refl _, Nat.le_refl _, fun C e h1 h2 H locs hW hS => ?_⟩
  obtain ⟨-, -, r3, r4⟩ := C.r
  have cx := C.x
  have cb := C.b
  have ck := C.lk
  obtain ⟨hX, hbl, hbb, hH0, hargs, hQ, hret, hbs, hn0, hz0, hR⟩ := e
  obtain ⟨⟨p, l, ev, R, st⟩, ⟨m, args, below, meth, c⟩, ⟨D, ka, bs, H0, n0, z0⟩, Q⟩ := X
  dsimp only [xp, xl, xe, xR, xs, xm, xargs, xbelow, xmeth, xc, xD, xka, xb, xH0, xn, xz, xQ, xW, G0] at *
  subst hargs; subst hQ; subst hR; subst hbs
  refine va_forget (fun q hq => hS.2.2 q hq) ?_
  refine W.widen (k := 600000) (n := 7302250) r3 r4 ?_
  exact lw_ret cx cb hret ck hdg
