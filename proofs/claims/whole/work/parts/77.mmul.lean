section UROWS
theorem u_J_X9_multiplyBy_152 {N : Nat} {k36 : Nat → Int32 → Int32 → Int32 → Int64 → Int64 → Int32 → Int32 → Int32 → Int32 → Int32 → vS → Option (Unit × vS)} {a0 : Nat} {l1 : Int32} {l2 : Int32} {l3 : Int32} {l4 : Int64} {l6 : Int64} {l8 : Int32} {l9 : Int32} {l10 : Int32} {l11 : Int32} {l12 : Int32} {s : vS} : J_X9_multiplyBy_152 N k36 a0 l1 l2 l3 l4 l6 l8 l9 l10 l11 l12 s = (nm (l12 + (1 : Int32)) (fun l12_12 => k36 a0 l1 l2 l3 l4 l6 l8 l9 l10 l11 l12_12 s)) := rfl
theorem u_J_X9_multiplyBy_116 {N : Nat} {k36 : Nat → Int32 → Int32 → Int32 → Int64 → Int64 → Int32 → Int32 → Int32 → Int32 → Int32 → vS → Option (Unit × vS)} {a0 : Nat} {l1 : Int32} {l2 : Int32} {l3 : Int32} {l4 : Int64} {l6 : Int64} {l8 : Int32} {l9 : Int32} {l10 : Int32} {l11 : Int32} {l12 : Int32} {k0 : Nat} {k1 : Int32} {k2 : Int32} {k3 : Int32} {k4 : Int32} {k5 : Int32} {s : vS} : J_X9_multiplyBy_116 N k36 a0 l1 l2 l3 l4 l6 l8 l9 l10 l11 l12 k0 k1 k2 k3 k4 k5 s = (bnd (F_X9_jointOf N k0 k1 k2 k3 k4 k5 s) (fun v14 s => ldJ s a0 9 23 (fun v15 => if (lg_cmp v15 (0 : Int64)) = (0 : Int32) then (J_X9_multiplyBy_152 N k36 a0 l1 l2 l3 l4 l6 l8 l9 l10 l11 l12 s) else (ldJ s a0 9 23 (fun v16 => ldJ s a0 9 24 (fun v17 => bnd (F_X9_times N a0 l4 l6 v16 v17 s) (fun v18 s => bnd (F_X9_addTo N a0 l8 l12 s) (fun v19 s => J_X9_multiplyBy_152 N k36 a0 l1 l2 l3 l4 l6 l8 l9 l10 l11 l12 s)))))))) := rfl
theorem u_J_X9_multiplyBy_96 {N : Nat} {k36 : Nat → Int32 → Int32 → Int32 → Int64 → Int64 → Int32 → Int32 → Int32 → Int32 → Int32 → vS → Option (Unit × vS)} {a0 : Nat} {l1 : Int32} {l2 : Int32} {l3 : Int32} {l4 : Int64} {l6 : Int64} {l8 : Int32} {l9 : Int32} {l10 : Int32} {l11 : Int32} {l12 : Int32} {k0 : Nat} {k1 : Int32} {k2 : Int32} {s : vS} : J_X9_multiplyBy_96 N k36 a0 l1 l2 l3 l4 l6 l8 l9 l10 l11 l12 k0 k1 k2 s = (bnd (F_X9_lookInto N k0 k1 k2 s) (fun v13 s => if l1 = (1 : Int32) then (J_X9_multiplyBy_116 N k36 a0 l1 l2 l3 l4 l6 l8 l9 l10 l11 l12 a0 l2 l9 l3 l10 (0 : Int32) s) else (J_X9_multiplyBy_116 N k36 a0 l1 l2 l3 l4 l6 l8 l9 l10 l11 l12 a0 l2 l9 l3 l10 (-1 : Int32) s))) := rfl
theorem u_J_X9_multiplyBy_50 {N : Nat} {k36 : Nat → Int32 → Int32 → Int32 → Int64 → Int64 → Int32 → Int32 → Int32 → Int32 → Int32 → vS → Option (Unit × vS)} {a0 : Nat} {l1 : Int32} {l2 : Int32} {l3 : Int32} {l4 : Int64} {l6 : Int64} {l8 : Int32} {l9 : Int32} {l10 : Int32} {l11 : Int32} {l12 : Int32} {k0 : Int32} {k1 : Int32} {s : vS} : J_X9_multiplyBy_50 N k36 a0 l1 l2 l3 l4 l6 l8 l9 l10 l11 l12 k0 k1 s = (if k1 ≤ k0 then (some ((), s)) else (ldR s a0 9 0 (fun r6 => bnd (F_X9_sizeBy N r6 l1 l12 s) (fun v7 s => if v7 = l11 then (if l1 = (1 : Int32) then (ldR s a0 9 1 (fun r10 => alI s r10 ((19 : Int32) + l12) (fun v11 => J_X9_multiplyBy_96 N k36 a0 l1 l2 l3 l4 l6 l8 l9 l10 l11 l12 a0 l11 v11 s))) else (ldR s a0 9 1 (fun r8 => alI s r8 l12 (fun v9 => J_X9_multiplyBy_96 N k36 a0 l1 l2 l3 l4 l6 l8 l9 l10 l11 l12 a0 l11 v9 s)))) else (J_X9_multiplyBy_152 N k36 a0 l1 l2 l3 l4 l6 l8 l9 l10 l11 l12 s))))) := rfl
theorem u_H_X9_multiplyBy_36 {N : Nat} {n : Nat} {a0 : Nat} {l1 : Int32} {l2 : Int32} {l3 : Int32} {l4 : Int64} {l6 : Int64} {l8 : Int32} {l9 : Int32} {l10 : Int32} {l11 : Int32} {l12 : Int32} {s : vS} : H_X9_multiplyBy_36 N (n + 1) a0 l1 l2 l3 l4 l6 l8 l9 l10 l11 l12 s = (if l1 = (1 : Int32) then (J_X9_multiplyBy_50 N (H_X9_multiplyBy_36 N n) a0 l1 l2 l3 l4 l6 l8 l9 l10 l11 l12 l12 (29 : Int32) s) else (J_X9_multiplyBy_50 N (H_X9_multiplyBy_36 N n) a0 l1 l2 l3 l4 l6 l8 l9 l10 l11 l12 l12 (19 : Int32) s)) := rfl
theorem u_F_X9_multiplyBy {N : Nat} {a0 : Nat} {l1 : Int32} {l2 : Int32} {l3 : Int32} {l4 : Int64} {l6 : Int64} {l8 : Int32} {s : vS} : F_X9_multiplyBy N a0 l1 l2 l3 l4 l6 l8 s = (rcv s a0 9 (ldR s a0 9 0 (fun r1 => bnd (F_X9_sizeBy N r1 l1 l2 s) (fun v2 s => ldR s a0 9 0 (fun r3 => bnd (F_X9_sizeBy N r3 l1 l3 s) (fun v4 s => nzI (2 : Int32) (nm (((v2 + v4) - (l1 - l1 / (2 : Int32) * (2 : Int32)))) (fun l11_5 => H_X9_multiplyBy_36 N N a0 l1 l2 l3 l4 l6 l8 v2 v4 l11_5 (0 : Int32) s)))))))) := rfl
theorem u_J_X9_multiply_162 {N : Nat} {k40 : Nat → Int32 → Int32 → Int32 → Int32 → Int32 → vS → Option (Unit × vS)} {k50 : Nat → Int32 → Int32 → Int32 → Int32 → Int32 → Int32 → vS → Option (Unit × vS)} {a0 : Nat} {l1 : Int32} {l2 : Int32} {l3 : Int32} {l4 : Int32} {l5 : Int32} {l6 : Int32} {s : vS} : J_X9_multiply_162 N k40 k50 a0 l1 l2 l3 l4 l5 l6 s = (nm (l6 + (1 : Int32)) (fun l6_29 => k50 a0 l1 l2 l3 l4 l5 l6_29 s)) := rfl
theorem u_H_X9_multiply_50 {N : Nat} {k40 : Nat → Int32 → Int32 → Int32 → Int32 → Int32 → vS → Option (Unit × vS)} {n : Nat} {a0 : Nat} {l1 : Int32} {l2 : Int32} {l3 : Int32} {l4 : Int32} {l5 : Int32} {l6 : Int32} {s : vS} : H_X9_multiply_50 N k40 (n + 1) a0 l1 l2 l3 l4 l5 l6 s = (if (29 : Int32) ≤ l6 then (nm (l5 + (1 : Int32)) (fun l5_12 => k40 a0 l1 l2 l3 l4 l5_12 s)) else (bnd (F_X9_isTerm N a0 l1 l5 s) (fun v13 s => if v13 = (0 : Int32) then (J_X9_multiply_162 N k40 (H_X9_multiply_50 N k40 n) a0 l1 l2 l3 l4 l5 l6 s) else (bnd (F_X9_isTerm N a0 l2 l6 s) (fun v14 s => if v14 = (0 : Int32) then (J_X9_multiply_162 N k40 (H_X9_multiply_50 N k40 n) a0 l1 l2 l3 l4 l5 l6 s) else (ldI s a0 9 25 (fun v15 => if v15 = (0 : Int32) then (ldR s a0 9 11 (fun r16 => alJ s r16 (((29 : Int32) * l1) + l5) (fun v17 => ldR s a0 9 12 (fun r18 => alJ s r18 (((29 : Int32) * l1) + l5) (fun v19 => ldR s a0 9 11 (fun r20 => alJ s r20 (((29 : Int32) * l2) + l6) (fun v21 => ldR s a0 9 12 (fun r22 => alJ s r22 (((29 : Int32) * l2) + l6) (fun v23 => bnd (F_X9_times N a0 v17 v19 v21 v23 s) (fun v24 s => ldI s a0 9 25 (fun v25 => if v25 = (0 : Int32) then (ldJ s a0 9 23 (fun v26 => ldJ s a0 9 24 (fun v27 => bnd (F_X9_multiplyBy N a0 l4 l5 l6 v26 v27 l3 s) (fun v28 s => J_X9_multiply_162 N k40 (H_X9_multiply_50 N k40 n) a0 l1 l2 l3 l4 l5 l6 s)))) else (J_X9_multiply_162 N k40 (H_X9_multiply_50 N k40 n) a0 l1 l2 l3 l4 l5 l6 s)))))))))))) else (J_X9_multiply_162 N k40 (H_X9_multiply_50 N k40 n) a0 l1 l2 l3 l4 l5 l6 s)))))))) := rfl
theorem u_H_X9_multiply_40 {N : Nat} {n : Nat} {a0 : Nat} {l1 : Int32} {l2 : Int32} {l3 : Int32} {l4 : Int32} {l5 : Int32} {s : vS} : H_X9_multiply_40 N (n + 1) a0 l1 l2 l3 l4 l5 s = (if (29 : Int32) ≤ l5 then (ldR s a0 9 10 (fun r10 => asI s r10 l3 l4 (fun s => bnd (F_X9_settle N a0 l3 s) (fun v11 s => some ((), s))))) else (H_X9_multiply_50 N (H_X9_multiply_40 N n) N a0 l1 l2 l3 l4 l5 (0 : Int32) s)) := rfl
theorem u_J_X9_multiply_30 {N : Nat} {a0 : Nat} {l1 : Int32} {l2 : Int32} {l3 : Int32} {k0 : Int32} {s : vS} : J_X9_multiply_30 N a0 l1 l2 l3 k0 s = (bnd (F_X9_empty N a0 l3 s) (fun v9 s => H_X9_multiply_40 N N a0 l1 l2 l3 k0 (0 : Int32) s)) := rfl
theorem u_F_X9_multiply {N : Nat} {a0 : Nat} {l1 : Int32} {l2 : Int32} {l3 : Int32} {s : vS} : F_X9_multiply N a0 l1 l2 l3 s = (rcv s a0 9 (ldR s a0 9 10 (fun r1 => alI s r1 l1 (fun v2 => ldR s a0 9 10 (fun r3 => alI s r3 l2 (fun v4 => if v4 ≤ v2 then (ldR s a0 9 10 (fun r5 => alI s r5 l2 (fun v6 => J_X9_multiply_30 N a0 l1 l2 l3 v6 s))) else (ldR s a0 9 10 (fun r7 => alI s r7 l1 (fun v8 => J_X9_multiply_30 N a0 l1 l2 l3 v8 s))))))))) := rfl
theorem u_J_X9_liftTo_187 {N : Nat} {k16 : Nat → Int32 → Int32 → Int32 → Int32 → Int32 → vS → Option (Unit × vS)} {k26 : Nat → Int32 → Int32 → Int32 → Int32 → Int32 → Int32 → vS → Option (Unit × vS)} {a0 : Nat} {l1 : Int32} {l2 : Int32} {l3 : Int32} {l4 : Int32} {l5 : Int32} {l6 : Int32} {s : vS} : J_X9_liftTo_187 N k16 k26 a0 l1 l2 l3 l4 l5 l6 s = (nm (l6 + (1 : Int32)) (fun l6_15 => k26 a0 l1 l2 l3 l4 l5 l6_15 s)) := rfl
theorem u_J_X9_liftTo_132 {N : Nat} {k16 : Nat → Int32 → Int32 → Int32 → Int32 → Int32 → vS → Option (Unit × vS)} {k26 : Nat → Int32 → Int32 → Int32 → Int32 → Int32 → Int32 → vS → Option (Unit × vS)} {a0 : Nat} {l1 : Int32} {l2 : Int32} {l3 : Int32} {l4 : Int32} {l5 : Int32} {l6 : Int32} {k0 : Nat} {k1 : Int32} {k2 : Int32} {k3 : Int32} {s : vS} : J_X9_liftTo_132 N k16 k26 a0 l1 l2 l3 l4 l5 l6 k0 k1 k2 k3 s = (bnd (F_X9_insideOf N k0 k1 k2 k3 s) (fun v19 s => ldJ s a0 9 23 (fun v20 => if (lg_cmp v20 (0 : Int64)) = (0 : Int32) then (J_X9_liftTo_187 N k16 k26 a0 l1 l2 l3 l4 l5 l6 s) else (ldR s a0 9 11 (fun r21 => alJ s r21 (((29 : Int32) * l1) + l5) (fun v22 => ldR s a0 9 12 (fun r23 => alJ s r23 (((29 : Int32) * l1) + l5) (fun v24 => ldJ s a0 9 23 (fun v25 => ldJ s a0 9 24 (fun v26 => bnd (F_X9_times N a0 v22 v24 v25 v26 s) (fun v27 s => bnd (F_X9_addTo N a0 l3 l6 s) (fun v28 s => J_X9_liftTo_187 N k16 k26 a0 l1 l2 l3 l4 l5 l6 s)))))))))))) := rfl
theorem u_J_X9_liftTo_104 {N : Nat} {k16 : Nat → Int32 → Int32 → Int32 → Int32 → Int32 → vS → Option (Unit × vS)} {k26 : Nat → Int32 → Int32 → Int32 → Int32 → Int32 → Int32 → vS → Option (Unit × vS)} {a0 : Nat} {l1 : Int32} {l2 : Int32} {l3 : Int32} {l4 : Int32} {l5 : Int32} {l6 : Int32} {k0 : Nat} {k1 : Int32} {k2 : Int32} {s : vS} : J_X9_liftTo_104 N k16 k26 a0 l1 l2 l3 l4 l5 l6 k0 k1 k2 s = (bnd (F_X9_lookInto N k0 k1 k2 s) (fun v16 s => ldR s a0 9 0 (fun r17 => bnd (F_X9_sizeBy N r17 l4 l5 s) (fun v18 s => if l4 = (1 : Int32) then (J_X9_liftTo_132 N k16 k26 a0 l1 l2 l3 l4 l5 l6 a0 l5 v18 (0 : Int32) s) else (J_X9_liftTo_132 N k16 k26 a0 l1 l2 l3 l4 l5 l6 a0 l5 v18 (-1 : Int32) s))))) := rfl
theorem u_J_X9_liftTo_41 {N : Nat} {k16 : Nat → Int32 → Int32 → Int32 → Int32 → Int32 → vS → Option (Unit × vS)} {k26 : Nat → Int32 → Int32 → Int32 → Int32 → Int32 → Int32 → vS → Option (Unit × vS)} {a0 : Nat} {l1 : Int32} {l2 : Int32} {l3 : Int32} {l4 : Int32} {l5 : Int32} {l6 : Int32} {k0 : Int32} {k1 : Int32} {s : vS} : J_X9_liftTo_41 N k16 k26 a0 l1 l2 l3 l4 l5 l6 k0 k1 s = (if k1 ≤ k0 then (nm (l5 + (1 : Int32)) (fun l5_6 => k16 a0 l1 l2 l3 l4 l5_6 s)) else (bnd (F_X9_isTerm N a0 l1 l5 s) (fun v7 s => if v7 = (0 : Int32) then (J_X9_liftTo_187 N k16 k26 a0 l1 l2 l3 l4 l5 l6 s) else (ldR s a0 9 0 (fun r8 => bnd (F_X9_sizeBy N r8 l4 l6 s) (fun v9 s => if v9 = l2 then (ldI s a0 9 25 (fun v10 => if v10 = (0 : Int32) then (if l4 = (1 : Int32) then (ldR s a0 9 1 (fun r13 => alI s r13 ((19 : Int32) + l6) (fun v14 => J_X9_liftTo_104 N k16 k26 a0 l1 l2 l3 l4 l5 l6 a0 l2 v14 s))) else (ldR s a0 9 1 (fun r11 => alI s r11 l6 (fun v12 => J_X9_liftTo_104 N k16 k26 a0 l1 l2 l3 l4 l5 l6 a0 l2 v12 s)))) else (J_X9_liftTo_187 N k16 k26 a0 l1 l2 l3 l4 l5 l6 s))) else (J_X9_liftTo_187 N k16 k26 a0 l1 l2 l3 l4 l5 l6 s))))))) := rfl
theorem u_H_X9_liftTo_26 {N : Nat} {k16 : Nat → Int32 → Int32 → Int32 → Int32 → Int32 → vS → Option (Unit × vS)} {n : Nat} {a0 : Nat} {l1 : Int32} {l2 : Int32} {l3 : Int32} {l4 : Int32} {l5 : Int32} {l6 : Int32} {s : vS} : H_X9_liftTo_26 N k16 (n + 1) a0 l1 l2 l3 l4 l5 l6 s = (if l4 = (1 : Int32) then (J_X9_liftTo_41 N k16 (H_X9_liftTo_26 N k16 n) a0 l1 l2 l3 l4 l5 l6 l6 (29 : Int32) s) else (J_X9_liftTo_41 N k16 (H_X9_liftTo_26 N k16 n) a0 l1 l2 l3 l4 l5 l6 l6 (19 : Int32) s)) := rfl
theorem u_H_X9_liftTo_16 {N : Nat} {n : Nat} {a0 : Nat} {l1 : Int32} {l2 : Int32} {l3 : Int32} {l4 : Int32} {l5 : Int32} {s : vS} : H_X9_liftTo_16 N (n + 1) a0 l1 l2 l3 l4 l5 s = (if (29 : Int32) ≤ l5 then (ldR s a0 9 10 (fun r4 => asI s r4 l3 l4 (fun s => bnd (F_X9_settle N a0 l3 s) (fun v5 s => some ((), s))))) else (H_X9_liftTo_26 N (H_X9_liftTo_16 N n) N a0 l1 l2 l3 l4 l5 (0 : Int32) s)) := rfl
theorem u_F_X9_liftTo {N : Nat} {a0 : Nat} {l1 : Int32} {l2 : Int32} {l3 : Int32} {s : vS} : F_X9_liftTo N a0 l1 l2 l3 s = (rcv s a0 9 (ldR s a0 9 10 (fun r1 => alI s r1 l1 (fun v2 => bnd (F_X9_empty N a0 l3 s) (fun v3 s => H_X9_liftTo_16 N N a0 l1 l2 l3 v2 (0 : Int32) s))))) := rfl
theorem u_J_X9_averageTo_93 {N : Nat} {k7 : Nat → Int32 → Int32 → Int32 → vS → Option (Unit × vS)} {a0 : Nat} {l1 : Int32} {l2 : Int32} {l3 : Int32} {s : vS} : J_X9_averageTo_93 N k7 a0 l1 l2 l3 s = (nm (l3 + (1 : Int32)) (fun l3_19 => k7 a0 l1 l2 l3_19 s)) := rfl
theorem u_H_X9_averageTo_7 {N : Nat} {n : Nat} {a0 : Nat} {l1 : Int32} {l2 : Int32} {l3 : Int32} {s : vS} : H_X9_averageTo_7 N (n + 1) a0 l1 l2 l3 s = (if (29 : Int32) ≤ l3 then (ldR s a0 9 10 (fun r2 => asI s r2 l2 (0 : Int32) (fun s => bnd (F_X9_settle N a0 l2 s) (fun v3 s => some ((), s))))) else (bnd (F_X9_isTerm N a0 l1 l3 s) (fun v4 s => if v4 = (0 : Int32) then (J_X9_averageTo_93 N (H_X9_averageTo_7 N n) a0 l1 l2 l3 s) else (ldI s a0 9 25 (fun v5 => if v5 = (0 : Int32) then (bnd (F_X9_rootsOf N a0 l3 s) (fun v6 s => ldR s a0 9 0 (fun r7 => alI s r7 ((19 : Int32) + l3) (fun v8 => bnd (F_X9_lay N a0 (v6).toInt64 (v8).toInt64 s) (fun v9 s => ldR s a0 9 11 (fun r10 => alJ s r10 (((29 : Int32) * l1) + l3) (fun v11 => ldR s a0 9 12 (fun r12 => alJ s r12 (((29 : Int32) * l1) + l3) (fun v13 => ldJ s a0 9 23 (fun v14 => ldJ s a0 9 24 (fun v15 => bnd (F_X9_times N a0 v11 v13 v14 v15 s) (fun v16 s => bnd (F_X9_plainOf N a0 l3 s) (fun v17 s => bnd (F_X9_addTo N a0 l2 v17 s) (fun v18 s => J_X9_averageTo_93 N (H_X9_averageTo_7 N n) a0 l1 l2 l3 s)))))))))))))) else (J_X9_averageTo_93 N (H_X9_averageTo_7 N n) a0 l1 l2 l3 s)))))) := rfl
theorem u_F_X9_averageTo {N : Nat} {a0 : Nat} {l1 : Int32} {l2 : Int32} {s : vS} : F_X9_averageTo N a0 l1 l2 s = (rcv s a0 9 (bnd (F_X9_empty N a0 l2 s) (fun v1 s => H_X9_averageTo_7 N N a0 l1 l2 (0 : Int32) s))) := rfl
theorem u_J_X9_isTooGreat_102 {N : Nat} {k34 : Nat → Int32 → Int32 → Int32 → Int32 → vS → Option (Int32 × vS)} {k44 : Nat → Int32 → Int32 → Int32 → Int32 → Int32 → vS → Option (Int32 × vS)} {a0 : Nat} {l1 : Int32} {l2 : Int32} {l3 : Int32} {l4 : Int32} {l5 : Int32} {s : vS} : J_X9_isTooGreat_102 N k34 k44 a0 l1 l2 l3 l4 l5 s = (nm (l5 + (1 : Int32)) (fun l5_16 => k44 a0 l1 l2 l3 l4 l5_16 s)) := rfl
theorem u_H_X9_isTooGreat_44 {N : Nat} {k34 : Nat → Int32 → Int32 → Int32 → Int32 → vS → Option (Int32 × vS)} {n : Nat} {a0 : Nat} {l1 : Int32} {l2 : Int32} {l3 : Int32} {l4 : Int32} {l5 : Int32} {s : vS} : H_X9_isTooGreat_44 N k34 (n + 1) a0 l1 l2 l3 l4 l5 s = (if (29 : Int32) ≤ l5 then (nm (l4 + (1 : Int32)) (fun l4_9 => k34 a0 l1 l2 l3 l4_9 s)) else (bnd (F_X9_isTerm N a0 l1 l4 s) (fun v10 s => if v10 = (0 : Int32) then (J_X9_isTooGreat_102 N k34 (H_X9_isTooGreat_44 N k34 n) a0 l1 l2 l3 l4 l5 s) else (bnd (F_X9_isTerm N a0 l2 l5 s) (fun v11 s => if v11 = (0 : Int32) then (J_X9_isTooGreat_102 N k34 (H_X9_isTooGreat_44 N k34 n) a0 l1 l2 l3 l4 l5 s) else (ldR s a0 9 0 (fun r12 => bnd (F_X9_sizeBy N r12 l3 l4 s) (fun v13 s => ldR s a0 9 0 (fun r14 => bnd (F_X9_sizeBy N r14 l3 l5 s) (fun v15 s => nzI (2 : Int32) (if ((v13 + v15) - (l3 - l3 / (2 : Int32) * (2 : Int32))) ≤ (4 : Int32) then (J_X9_isTooGreat_102 N k34 (H_X9_isTooGreat_44 N k34 n) a0 l1 l2 l3 l4 l5 s) else (rtZ (1 : Int32) s)))))))))))) := rfl
theorem u_H_X9_isTooGreat_34 {N : Nat} {n : Nat} {a0 : Nat} {l1 : Int32} {l2 : Int32} {l3 : Int32} {l4 : Int32} {s : vS} : H_X9_isTooGreat_34 N (n + 1) a0 l1 l2 l3 l4 s = (if (29 : Int32) ≤ l4 then (rtZ (0 : Int32) s) else (H_X9_isTooGreat_44 N (H_X9_isTooGreat_34 N n) N a0 l1 l2 l3 l4 (0 : Int32) s)) := rfl
theorem u_J_X9_isTooGreat_30 {N : Nat} {a0 : Nat} {l1 : Int32} {l2 : Int32} {k0 : Int32} {s : vS} : J_X9_isTooGreat_30 N a0 l1 l2 k0 s = (H_X9_isTooGreat_34 N N a0 l1 l2 k0 (0 : Int32) s) := rfl
theorem u_F_X9_isTooGreat {N : Nat} {a0 : Nat} {l1 : Int32} {l2 : Int32} {s : vS} : F_X9_isTooGreat N a0 l1 l2 s = (rcv s a0 9 (ldR s a0 9 10 (fun r1 => alI s r1 l1 (fun v2 => ldR s a0 9 10 (fun r3 => alI s r3 l2 (fun v4 => if v4 ≤ v2 then (ldR s a0 9 10 (fun r5 => alI s r5 l2 (fun v6 => J_X9_isTooGreat_30 N a0 l1 l2 v6 s))) else (ldR s a0 9 10 (fun r7 => alI s r7 l1 (fun v8 => J_X9_isTooGreat_30 N a0 l1 l2 v8 s))))))))) := rfl
theorem u_J_X9_isValued_117 {N : Nat} {k0 : Int32} {s : vS} : J_X9_isValued_117 N k0 s = (rtZ k0 s) := rfl
theorem u_J_X9_isValued_99 {N : Nat} {k17 : Nat → Int32 → Int32 → Int32 → vS → Option (Int32 × vS)} {a0 : Nat} {l1 : Int32} {l2 : Int32} {l3 : Int32} {s : vS} : J_X9_isValued_99 N k17 a0 l1 l2 l3 s = (nm (l3 + (1 : Int32)) (fun l3_17 => k17 a0 l1 l2 l3_17 s)) := rfl
theorem u_H_X9_isValued_17 {N : Nat} {n : Nat} {a0 : Nat} {l1 : Int32} {l2 : Int32} {l3 : Int32} {s : vS} : H_X9_isValued_17 N (n + 1) a0 l1 l2 l3 s = (if (29 : Int32) ≤ l3 then (ldI s a0 9 25 (fun v3 => if v3 = (0 : Int32) then (J_X9_isValued_117 N (1 : Int32) s) else (J_X9_isValued_117 N (0 : Int32) s))) else (bnd (F_X9_isTerm N a0 l1 l3 s) (fun v4 s => if v4 = (0 : Int32) then (J_X9_isValued_99 N (H_X9_isValued_17 N n) a0 l1 l2 l3 s) else (ldI s a0 9 25 (fun v5 => if v5 = (0 : Int32) then (bnd (F_X9_sizeIn N a0 l1 l3 s) (fun v6 s => bnd (F_X9_insideOf N a0 l3 v6 l2 s) (fun v7 s => ldR s a0 9 11 (fun r8 => alJ s r8 (((29 : Int32) * l1) + l3) (fun v9 => ldR s a0 9 12 (fun r10 => alJ s r10 (((29 : Int32) * l1) + l3) (fun v11 => ldJ s a0 9 23 (fun v12 => ldJ s a0 9 24 (fun v13 => bnd (F_X9_times N a0 v9 v11 v12 v13 s) (fun v14 s => ldI s a0 9 25 (fun v15 => if v15 = (0 : Int32) then (bnd (F_X9_addTo N a0 (13 : Int32) (0 : Int32) s) (fun v16 s => J_X9_isValued_99 N (H_X9_isValued_17 N n) a0 l1 l2 l3 s)) else (J_X9_isValued_99 N (H_X9_isValued_17 N n) a0 l1 l2 l3 s)))))))))))) else (J_X9_isValued_99 N (H_X9_isValued_17 N n) a0 l1 l2 l3 s)))))) := rfl
theorem u_F_X9_isValued {N : Nat} {a0 : Nat} {l1 : Int32} {l2 : Int32} {s : vS} : F_X9_isValued N a0 l1 l2 s = (rcv s a0 9 (stZ s a0 9 25 (0 : Int32) (fun s => bnd (F_X9_empty N a0 (13 : Int32) s) (fun v1 s => bnd (F_X9_lookInHand N a0 s) (fun v2 s => H_X9_isValued_17 N N a0 l1 l2 (0 : Int32) s))))) := rfl
end UROWS
/-! products of sums: the model -/
section MACC
variable {N : Nat} {m : vM} {s : vS}
def RowM (m : vM) (t : Nat) (o : Row) : Prop := ∀ k, k < 29 → rowM m t k = o k
def AccM (m : vM) (t : Nat) (X : Option Row) : Prop := (match X with
  | some row => rI m 322 25 = 0 ∧ RowM m t row
  | none => rI m 322 25 = 1) ∧ Lows (rowM m t)
def moP (t b j : Nat) : Prop := (b = 322 ∧ (j = 7 ∨ j = 23 ∨ j = 24 ∨ j = 25)) ∨ b = 329 ∨ b = 340 ∨ b = 341 ∨ ((b = 332 ∨ b = 333) ∧ 29 * t ≤ j ∧ j < 29 * t + 29)
def moA (t b j : Nat) : Prop := (b = 322 ∧ (j = 23 ∨ j = 24 ∨ j = 25)) ∨ ((b = 332 ∨ b = 333) ∧ 29 * t ≤ j ∧ j < 29 * t + 29)
theorem moA_P {t b j : Nat} (h : moA t b j) : moP t b j := by
  unfold moA at h
  unfold moP
  omega
theorem moP_tab {t b j : Nat} (h : tabP b j) : ¬ moP t b j := by
  unfold tabP at h
  unfold moP
  omega
theorem RowM.fr {t u : Nat} {o : Row} {m m' : vM} (h : RowM m u o) (hu : u ≠ t) (g : Fr (moP t) m m') : RowM m' u o := fun k hk => by
  rw [← h k hk]
  show (rJ m' 332 (29 * u + k), rJ m' 333 (29 * u + k)) = (rJ m 332 (29 * u + k), rJ m 333 (29 * u + k))
  rw [g.j (by unfold moP; omega), g.j (by unfold moP; omega)]
theorem AccM.o {t : Nat} {X : Option Row} (h : AccM m t X) : rI m 322 25 = b2 (X = none) := by
  cases X with
  | none => rw [h.1, b2_t rfl]
  | some row => rw [h.1.1, b2_f (by simp)]
theorem AccM.fr {t : Nat} {X : Option Row} {P : Nat → Nat → Prop} {m m' : vM} (h : AccM m t X) (g : Fr P m m') (h1 : ¬ P 322 25) (h2 : ∀ k, k < 29 → ¬ P 332 (29 * t + k) ∧ ¬ P 333 (29 * t + k)) : AccM m' t X := by
  have e : ∀ k, k < 29 → rowM m' t k = rowM m t k := fun k hk => by
    show (rJ m' 332 (29 * t + k), rJ m' 333 (29 * t + k)) = (rJ m 332 (29 * t + k), rJ m 333 (29 * t + k))
    rw [g.j (h2 k hk).1, g.j (h2 k hk).2]
  refine ⟨?_, fun k hk => by rw [e k hk]; exact h.2 k hk⟩
  cases X with
  | none => show rI m' 322 25 = 1; rw [g.i h1]; exact h.1
  | some row => exact ⟨by rw [g.i h1]; exact h.1.1, fun k hk => by rw [e k hk]; exact h.1.2 k hk⟩
theorem b2_eq {c d : Prop} [Decidable c] [Decidable d] (h : c ↔ d) : b2 c = b2 d := b2_c h
/-- what was found is added -/
theorem m_addA {t k : Nat} {X : Option Row} {qo : Option Fc} (hN : 100 ≤ N) (ht : t < 16) (hk : k < 29) (hl : Lows (rowM m t)) (hx : ∀ row, X = some row → RowM m t row) (ho : rI m 322 25 = b2 (X = none ∨ qo = none)) (hq : ∀ row q, X = some row → qo = some q → rJ m 322 23 = q.1 ∧ rJ m 322 24 = q.2) (hpos : 0 < (rJ m 322 24).toInt) :
    ∃ m', F_X9_addTo N 322 (nI t) (nI k) (S m) = some ((), S m') ∧ AccM m' t (stA k qo X) ∧ Fr (moA t) m m' := by
  obtain ⟨m', a1, a2, a3, a4, a5⟩ := m_addTo (N := N) (m := m) (o := (X = none ∨ qo = none)) hN ht hk (hl k hk).1 hpos ho
  have fr : Fr (moA t) m m' := fun a j hj => ⟨a2 a j (by unfold moA at hj; omega), a3 a j (by unfold moA at hj; omega) (by unfold moA at hj; omega)⟩
  have oth : ∀ j, j < 29 → j ≠ k → rowM m' t j = rowM m t j := fun j hj hjk => by
    show (rJ m' 332 (29 * t + j), rJ m' 333 (29 * t + j)) = (rJ m 332 (29 * t + j), rJ m 333 (29 * t + j))
    rw [a3 _ _ (by omega) (by omega), a3 _ _ (by omega) (by omega)]
  refine ⟨m', a1, ?_, fr⟩
  cases hres : (if X = none ∨ qo = none then none else fadd (rJ m 332 (29 * t + k)) (rJ m 333 (29 * t + k)) (rJ m 322 23) (rJ m 322 24)) with
  | none =>
    rw [hres] at a5
    obtain ⟨c1, c2, c3⟩ := a5
    have same : ∀ j, j < 29 → rowM m' t j = rowM m t j := fun j hj => by
      by_cases z : j = k
      · rw [z]
        show (rJ m' 332 (29 * t + k), rJ m' 333 (29 * t + k)) = _
        rw [c2, c3]
        rfl
      · exact oth j hj z
    have hn : stA k qo X = none := by
      cases X with
      | none => rfl
      | some row =>
        cases qo with
        | none => rfl
        | some q =>
          rw [if_neg (by simp)] at hres
          obtain ⟨q1, q2⟩ := hq row q rfl rfl
          have e := hx row rfl k hk
          have e1 : rJ m 332 (29 * t + k) = (row k).1 := congrArg Prod.fst e
          have e2 : rJ m 333 (29 * t + k) = (row k).2 := congrArg Prod.snd e
          rw [e1, e2, q1, q2] at hres
          show acc row k q = none
          unfold acc
          rw [hres]
    rw [hn]
    exact ⟨c1, fun j hj => by rw [same j hj]; exact hl j hj⟩
  | some pp =>
    rw [hres] at a5
    obtain ⟨c1, c2, c3⟩ := a5
    have hno : ¬ (X = none ∨ qo = none) := fun w => by rw [if_pos w] at hres; cases hres
    rw [if_neg hno] at hres
    cases X with
    | none => exact absurd (Or.inl rfl) hno
    | some row =>
      cases qo with
      | none => exact absurd (Or.inr rfl) hno
      | some q =>
        obtain ⟨q1, q2⟩ := hq row q rfl rfl
        have hr := hx row rfl
        have e := hr k hk
        have e1 : rJ m 332 (29 * t + k) = (row k).1 := congrArg Prod.fst e
        have e2 : rJ m 333 (29 * t + k) = (row k).2 := congrArg Prod.snd e
        have hlk := hl k hk
        rw [e] at hlk
        have hlow : Low pp := by
          rw [e1, e2] at hres
          exact fadd_low hlk.1 hpos hres
        rw [e1, e2, q1, q2] at hres
        have ea : stA k (some q) (some row) = some (fun j => if j = k then pp else row j) := by
          show acc row k q = _
          unfold acc
          rw [hres]
        have hrow : ∀ j, j < 29 → rowM m' t j = if j = k then pp else row j := fun j hj => by
          by_cases z : j = k
          · rw [if_pos z, z]
            show (rJ m' 332 (29 * t + k), rJ m' 333 (29 * t + k)) = pp
            rw [c2, c3]
          · rw [if_neg z, oth j hj z, hr j hj]
        rw [ea]
        refine ⟨⟨c1, hrow⟩, fun j hj => ?_⟩
        rw [hrow j hj]
        by_cases z : j = k
        · rw [if_pos z]; exact hlow
        · rw [if_neg z, ← hr j hj]; exact hl j hj
/-- a fraction times what was found, added -/
theorem m_ta {t k : Nat} {X : Option Row} {p : Fc} (hN : 100 ≤ N) (ht : t < 16) (hk : k < 29) (hA : AccM m t X) (hp : 0 < p.2.toInt) (hq : 0 < (rJ m 322 24).toInt) :
    ∃ m1 m', F_X9_times N 322 p.1 p.2 (rJ m 322 23) (rJ m 322 24) (S m) = some ((), S m1) ∧ F_X9_addTo N 322 (nI t) (nI k) (S m1) = some ((), S m') ∧ AccM m' t (stA k (fmul p.1 p.2 (rJ m 322 23) (rJ m 322 24)) X) ∧ Fr (moA t) m m' ∧ Fr (moA t) m m1 ∧ rI m1 322 25 = b2 (X = none ∨ fmul p.1 p.2 (rJ m 322 23) (rJ m 322 24) = none) ∧ ∀ j, j < 29 → rowM m1 t j = rowM m t j := by
  obtain ⟨m1, t1, tK, tA⟩ := m_times (N := N) (m := m) (a := p.1) (b := p.2) (c := rJ m 322 23) (d := rJ m 322 24) (o := (X = none)) hN hp hq hA.o
  have f1 : Fr (moA t) m m1 := fun a j hj => ⟨tK.1 a j (by unfold moA at hj; omega), tK.2 a j (by unfold moA at hj; omega)⟩
  have rows : ∀ j, j < 29 → rowM m1 t j = rowM m t j := fun j hj => by
    show (rJ m1 332 (29 * t + j), rJ m1 333 (29 * t + j)) = (rJ m 332 (29 * t + j), rJ m 333 (29 * t + j))
    rw [tK.2 _ _ (by omega), tK.2 _ _ (by omega)]
  have hl1 : Lows (rowM m1 t) := fun j hj => by rw [rows j hj]; exact hA.2 j hj
  have hx1 : ∀ row, X = some row → RowM m1 t row := fun row e j hj => by
    rw [rows j hj]
    have h := hA.1
    rw [e] at h
    exact h.2 j hj
  have hfacts : rI m1 322 25 = b2 (X = none ∨ fmul p.1 p.2 (rJ m 322 23) (rJ m 322 24) = none) ∧ 0 < (rJ m1 322 24).toInt ∧ ∀ row q, X = some row → fmul p.1 p.2 (rJ m 322 23) (rJ m 322 24) = some q → rJ m1 322 23 = q.1 ∧ rJ m1 322 24 = q.2 := by
    cases hres : (if X = none then none else fmul p.1 p.2 (rJ m 322 23) (rJ m 322 24)) with
    | none =>
      rw [hres] at tA
      obtain ⟨c1, c2, c3⟩ := tA
      have hz : X = none ∨ fmul p.1 p.2 (rJ m 322 23) (rJ m 322 24) = none := by
        by_cases z : X = none
        · exact Or.inl z
        · rw [if_neg z] at hres; exact Or.inr hres
      refine ⟨by rw [c1, b2_t hz], by rw [c3]; exact hq, fun row q e e2 => ?_⟩
      rcases hz with z | z
      · rw [z] at e; cases e
      · rw [z] at e2; cases e2
    | some pp =>
      rw [hres] at tA
      obtain ⟨c1, c2, c3⟩ := tA
      have hz : ¬ X = none := fun w => by rw [if_pos w] at hres; cases hres
      rw [if_neg hz] at hres
      refine ⟨?_, by rw [c3]; exact fmul_pos hp hq hres, fun row q e e2 => ?_⟩
      · rw [c1, b2_f (fun w => w.elim hz (fun w => by rw [hres] at w; cases w))]
      · rw [hres] at e2
        cases e2
        exact ⟨c2, c3⟩
  obtain ⟨m', a1, a2, a3⟩ := m_addA (N := N) (m := m1) (X := X) (qo := fmul p.1 p.2 (rJ m 322 23) (rJ m 322 24)) hN ht hk hl1 hx1 hfacts.1 hfacts.2.2 hfacts.2.1
  exact ⟨m1, m', t1, a1, a2, f1.tr a3, f1, hfacts.1, rows⟩
theorem m_sizeBy {q : Bool} {kd k : Nat} (hT : Tab m) (hq : q = true ↔ kd = 1) (hkd : kd < 3) (hk : k < mny q) : F_X9_sizeBy N 323 (nI kd) (nI k) (S m) = some (nI (sz_ q k), S m) := by
  have ha := adr q
  have h := (hT.2.1 q k hk).2.2.2.1
  unfold F_X9_sizeBy
  cases q with
  | true =>
    have e := hq.mp rfl
    refine e_t (by rw [e]; rfl) ?_
    have e1 : (19 : Int32) + nI k = nI (19 + k) := nI_add 19 k
    rw [e1]
    refine e_alIV fmA0 rfl (by omega) h ?_
    rfl
  | false =>
    refine e_f (by rw [eqR (by decide) (by omega)]; intro w; exact absurd (hq.mpr w) (by decide)) ?_
    have h : rI m 323 (0 + k) = _ := h
    rw [Nat.zero_add] at h
    refine e_alIV fmA0 rfl (by omega) h ?_
    rfl
theorem wA_fr {t : Nat} {p : Fc} : Fr (moP t) m (wA m p) := (Fr.rf.sJ (Or.inl ⟨rfl, by omega⟩)).sJ (Or.inl ⟨rfl, by omega⟩)
theorem kd_rem {q : Bool} {kd : Nat} (hq : q = true ↔ kd = 1) (hkd : kd < 3) : kd % 2 = sh_ q := by
  cases q with
  | true => rw [hq.mp rfl]; rfl
  | false =>
    have : kd ≠ 1 := fun w => absurd (hq.mpr w) (by decide)
    show kd % 2 = 0
    omega
theorem m_mulBy_l {q : Bool} {kd f g size t : Nat} {b : Fc} (hN : 100 ≤ N) (hq : q = true ↔ kd = 1) (hkd : kd < 3) (hf : f < mny q) (hg : g < mny q) (ht : t < 16) (hsz : size = sz_ q f + sz_ q g - sh_ q) (hb : 0 < b.2.toInt) : ∀ (d h n : Nat) (m : vM) (X : Option Row), h + d = mny q → d < n → Tab m → AccM m t X →
    ∃ m', H_X9_multiplyBy_36 N n 322 (nI kd) (nI f) (nI g) b.1 b.2 (nI t) (nI (sz_ q f)) (nI (sz_ q g)) (nI size) (nI h) (S m) = some ((), S m') ∧ Fr (moP t) m m' ∧ AccM m' t (fld (mstep q f g size b) d h X)
  | _, _, 0, _, _, _, h, _, _ => by omega
  | 0, h, n + 1, m, X, hh, _, hT, hA => by
    have ha := adr q
    refine ⟨m, ?_, Fr.rf, hA⟩
    refine Eq.trans u_H_X9_multiplyBy_36 ?_
    cases q with
    | true =>
      refine e_t (by rw [hq.mp rfl]; rfl) ?_
      unfold J_X9_multiplyBy_50
      exact e_t (by rw [leL (by decide) (by omega)]; show 29 ≤ h; have hh : h + 0 = 29 := hh; omega) rfl
    | false =>
      refine e_f (by rw [eqR (by decide) (by omega)]; intro w; exact absurd (hq.mpr w) (by decide)) ?_
      unfold J_X9_multiplyBy_50
      exact e_t (by rw [leL (by decide) (by omega)]; show 19 ≤ h; have hh : h + 0 = 19 := hh; omega) rfl
  | d + 1, h, n + 1, m, X, hh, hd, hT, hA => by
    have ha := adr q
    have hhm : h < mny q := by omega
    have z1 := szc q h hhm
    have z2 := szc q f hf
    have z3 := szc q g hg
    have cd := (hT.2.1 q h hhm).2.2.2.2
    have nx : ∀ m1 X1, Fr (moP t) m m1 → AccM m1 t X1 → mstep q f g size b h X = X1 → ∃ m', J_X9_multiplyBy_152 N (H_X9_multiplyBy_36 N n) 322 (nI kd) (nI f) (nI g) b.1 b.2 (nI t) (nI (sz_ q f)) (nI (sz_ q g)) (nI size) (nI h) (S m1) = some ((), S m') ∧ Fr (moP t) m m' ∧ AccM m' t (fld (mstep q f g size b) (d + 1) h X) := by
      intro m1 X1 f1 A1 e1
      obtain ⟨m', g1, g2, g3⟩ := m_mulBy_l hN hq hkd hf hg ht hsz hb d (h + 1) n m1 X1 (by omega) (by omega) (hT.fr (fun b j hb => f1 b j (moP_tab hb))) A1
      refine ⟨m', ?_, f1.tr g2, by rw [fld, e1]; exact g3⟩
      unfold J_X9_multiplyBy_152
      refine e_nm ?_
      rw [addR]
      exact g1
    -- the body, whatever comes at its end
    have body : ∃ m', J_X9_multiplyBy_50 N (H_X9_multiplyBy_36 N n) 322 (nI kd) (nI f) (nI g) b.1 b.2 (nI t) (nI (sz_ q f)) (nI (sz_ q g)) (nI size) (nI h) (nI h) (nI (mny q)) (S m) = some ((), S m') ∧ Fr (moP t) m m' ∧ AccM m' t (fld (mstep q f g size b) (d + 1) h X) := by
      by_cases zs : sz_ q h = size
      · obtain ⟨m1, l1, l2, l3⟩ := m_lookInto (N := N) (m := m) (size := sz_ q h) (code := cd_ q h) hN z1.1 z1.2.2.2.1
        have f1 : Fr (moP t) m m1 := l2.mo (fun b j w => by unfold lkP at w; unfold moP; omega)
        have hT1 : Tab m1 := hT.fr (fun b j hb => f1 b j (moP_tab hb))
        obtain ⟨m2, j1, j2⟩ := m_jointOf (N := N) (m := m1) (f := f) (g := g) (h := h) hN hT1 hf hg hhm (by omega) l3
        have f2 : Fr (moP t) m m2 := f1.tr (j2.mo (fun b j w => by unfold joP at w; unfold moP; omega))
        have f3 : Fr (moP t) m (wA m2 (jt q f g h)) := f2.tr wA_fr
        have A2 : AccM m2 t X := (hA.fr l2 (by unfold lkP; omega) (fun k hk => by unfold lkP; omega)).fr j2 (by unfold joP; omega) (fun k hk => by unfold joP; omega)
        have A3 : AccM (wA m2 (jt q f g h)) t X := A2.fr (P := fun a j => a = 322 ∧ (j = 23 ∨ j = 24)) ((Fr.rf.sJ ⟨rfl, Or.inl rfl⟩).sJ ⟨rfl, Or.inr rfl⟩) (by omega) (fun k hk => by omega)
        have w23 := wA_1 (m := m2) (p := jt q f g h)
        have w24 := wA_2 (m := m2) (p := jt q f g h)
        have hjp := jt_pos hf hg hhm (by omega)
        have start : ∀ m' , (if lg_cmp (jt q f g h).1 (0 : Int64) = 0 then J_X9_multiplyBy_152 N (H_X9_multiplyBy_36 N n) 322 (nI kd) (nI f) (nI g) b.1 b.2 (nI t) (nI (sz_ q f)) (nI (sz_ q g)) (nI size) (nI h) (S (wA m2 (jt q f g h))) else bnd (F_X9_times N 322 b.1 b.2 (jt q f g h).1 (jt q f g h).2 (S (wA m2 (jt q f g h)))) (fun _ s => bnd (F_X9_addTo N 322 (nI t) (nI h) s) (fun _ s => J_X9_multiplyBy_152 N (H_X9_multiplyBy_36 N n) 322 (nI kd) (nI f) (nI g) b.1 b.2 (nI t) (nI (sz_ q f)) (nI (sz_ q g)) (nI size) (nI h) s))) = some ((), S m') → J_X9_multiplyBy_50 N (H_X9_multiplyBy_36 N n) 322 (nI kd) (nI f) (nI g) b.1 b.2 (nI t) (nI (sz_ q f)) (nI (sz_ q g)) (nI size) (nI h) (nI h) (nI (mny q)) (S m) = some ((), S m') := by
          intro m' hR
          have joint : ∀ x, rt (ro_ q) = x → J_X9_multiplyBy_116 N (H_X9_multiplyBy_36 N n) 322 (nI kd) (nI f) (nI g) b.1 b.2 (nI t) (nI (sz_ q f)) (nI (sz_ q g)) (nI size) (nI h) 322 (nI f) (nI (sz_ q f)) (nI g) (nI (sz_ q g)) x (S m1) = some ((), S m') := by
            intro x hx
            subst hx
            unfold J_X9_multiplyBy_116
            refine e_bnd j1 ?_
            refine e_ldJV fmO w23 ?_
            refine e_i (fun z => ?_) (fun z => ?_)
            · rw [if_pos z] at hR; exact hR
            · rw [if_neg z] at hR
              refine e_ldJV fmO w23 ?_
              refine e_ldJV fmO w24 ?_
              exact hR
          have look : J_X9_multiplyBy_96 N (H_X9_multiplyBy_36 N n) 322 (nI kd) (nI f) (nI g) b.1 b.2 (nI t) (nI (sz_ q f)) (nI (sz_ q g)) (nI size) (nI h) 322 (nI size) (nI (cd_ q h)) (S m) = some ((), S m') := by
            unfold J_X9_multiplyBy_96
            rw [← zs]
            refine e_bnd l1 ?_
            rw [zs]
            cases q with
            | true =>
              refine e_t (by rw [hq.mp rfl]; rfl) ?_
              exact joint _ rfl
            | false =>
              refine e_f (by rw [eqR (by decide) (by omega)]; intro w; exact absurd (hq.mpr w) (by decide)) ?_
              exact joint _ rfl
          unfold J_X9_multiplyBy_50
          refine e_f (by rw [nI_leI (by omega) (by omega)]; omega) ?_
          refine e_ldR fmO fmR0 ?_
          refine e_bnd (m_sizeBy hT hq hkd hhm) ?_
          refine e_t (by rw [zs]) ?_
          cases q with
          | true =>
            refine e_t (by rw [hq.mp rfl]; rfl) ?_
            refine e_ldR fmO fmR1 ?_
            rw [show (19 : Int32) + nI h = nI (19 + h) from nI_add 19 h]
            refine e_alIV fmA1 rfl (by omega) cd ?_
            exact look
          | false =>
            refine e_f (by rw [eqR (by decide) (by omega)]; intro w; exact absurd (hq.mpr w) (by decide)) ?_
            refine e_ldR fmO fmR1 ?_
            have cd : rI m 324 (0 + h) = _ := cd
            rw [Nat.zero_add] at cd
            refine e_alIV fmA1 rfl (by omega) cd ?_
            exact look
        by_cases z : (jt q f g h).1 = 0
        · obtain ⟨m', g1, g2, g3⟩ := nx _ X f3 A3 (by unfold mstep; rw [if_pos zs, if_pos z])
          exact ⟨m', start m' (by rw [if_pos ((lg_cmp_eq _ _).mpr z)]; exact g1), g2, g3⟩
        · obtain ⟨m4, m5, t1, t2, t3, t4, -, -⟩ := m_ta (N := N) (m := wA m2 (jt q f g h)) (k := h) (p := b) hN ht (by omega) A3 hb (by rw [w24]; exact hjp.1)
          rw [w23, w24] at t1 t3
          obtain ⟨m', g1, g2, g3⟩ := nx m5 _ (f3.tr (t4.mo (fun _ _ => moA_P))) t3 (by unfold mstep; rw [if_pos zs, if_neg z])
          refine ⟨m', start m' ?_, g2, g3⟩
          rw [if_neg (fun w => z ((lg_cmp_eq _ _).mp w))]
          refine e_bnd t1 ?_
          refine e_bnd t2 ?_
          exact g1
      · obtain ⟨m', g1, g2, g3⟩ := nx m X Fr.rf hA (by unfold mstep; rw [if_neg zs])
        refine ⟨m', ?_, g2, g3⟩
        unfold J_X9_multiplyBy_50
        refine e_f (by rw [nI_leI (by omega) (by omega)]; omega) ?_
        refine e_ldR fmO fmR0 ?_
        refine e_bnd (m_sizeBy hT hq hkd hhm) ?_
        refine e_f (by rw [nI_eq (by omega) (by omega)]; exact zs) ?_
        exact g1
    obtain ⟨m', g1, g2, g3⟩ := body
    refine ⟨m', ?_, g2, g3⟩
    refine Eq.trans u_H_X9_multiplyBy_36 ?_
    cases q with
    | true =>
      refine e_t (by rw [hq.mp rfl]; rfl) ?_
      exact g1
    | false =>
      refine e_f (by rw [eqR (by decide) (by omega)]; intro w; exact absurd (hq.mpr w) (by decide)) ?_
      exact g1
theorem m_multiplyBy {q : Bool} {kd f g t : Nat} {b : Fc} {X : Option Row} (hN : 100 ≤ N) (hq : q = true ↔ kd = 1) (hkd : kd < 3) (hf : f < mny q) (hg : g < mny q) (ht : t < 16) (hb : 0 < b.2.toInt) (hT : Tab m) (hA : AccM m t X) :
    ∃ m', F_X9_multiplyBy N 322 (nI kd) (nI f) (nI g) b.1 b.2 (nI t) (S m) = some ((), S m') ∧ Fr (moP t) m m' ∧ AccM m' t (stM q f g (sz_ q f + sz_ q g - sh_ q) b X) := by
  have ha := adr q
  have z2 := szc q f hf
  have z3 := szc q g hg
  obtain ⟨m', g1, g2, g3⟩ := m_mulBy_l (N := N) hN hq hkd hf hg ht rfl hb (mny q) 0 N m X (by omega) (by omega) hT hA
  refine ⟨m', ?_, g2, g3⟩
  unfold F_X9_multiplyBy
  refine e_rcv fmO ?_
  refine e_ldR fmO fmR0 ?_
  refine e_bnd (m_sizeBy hT hq hkd hf) ?_
  refine e_ldR fmO fmR0 ?_
  refine e_bnd (m_sizeBy hT hq hkd hg) ?_
  refine e_nzI (by decide) ?_
  refine e_nm ?_
  rw [remR (by omega) (by decide) (by decide), show kd % (OfNat.ofNat 2) = sh_ q from kd_rem hq hkd, nI_add, pk_sub (by omega)]
  exact g1
end MACC
