section
theorem uj_22 (t0 t1 t2 t3 t4 t5 : va_W) : List.Perm (α := Nat × va_E) (t0 ++ (t1 ++ (t2 ++ (([] : va_W) ++ (([] : va_W) ++ (t3 ++ (t4 ++ (t5)))))))) ((t0 ++ (t1 ++ (t2))) ++ (t3 ++ (t4 ++ (t5)))) := (List.Perm.of_eq (show (t0 ++ (t1 ++ (t2 ++ (([] : va_W) ++ (([] : va_W) ++ (t3 ++ (t4 ++ (t5))))))) : va_W) = t0 ++ (t1 ++ (t2 ++ (t3 ++ (t4 ++ (t5))))) from by first | rfl | simp only [List.append_assoc, List.nil_append, List.append_nil])).trans (((((((((List.Perm.append_left _ ((List.Perm.append_left _ ((List.Perm.append_left _ ((List.Perm.append_left _ (List.perm_append_comm)).trans (List.perm_append_comm_assoc _ _ _))).trans (List.perm_append_comm_assoc _ _ _))).trans (List.perm_append_comm_assoc _ _ _))).trans (List.perm_append_comm_assoc _ _ _)).trans ((List.Perm.append_left _ ((List.Perm.append_left _ ((List.Perm.append_left _ ((List.Perm.append_left _ (List.perm_append_comm)).trans (List.perm_append_comm_assoc _ _ _))).trans (List.perm_append_comm_assoc _ _ _))).trans (List.perm_append_comm_assoc _ _ _))).trans (List.perm_append_comm_assoc _ _ _))).trans ((List.Perm.append_left _ ((List.Perm.append_left _ ((List.Perm.append_left _ ((List.Perm.append_left _ (List.perm_append_comm)).trans (List.perm_append_comm_assoc _ _ _))).trans (List.perm_append_comm_assoc _ _ _))).trans (List.perm_append_comm_assoc _ _ _))).trans (List.perm_append_comm_assoc _ _ _))).trans ((List.Perm.append_left _ ((List.Perm.append_left _ ((List.Perm.append_left _ ((List.Perm.append_left _ (List.perm_append_comm)).trans (List.perm_append_comm_assoc _ _ _))).trans (List.perm_append_comm_assoc _ _ _))).trans (List.perm_append_comm_assoc _ _ _))).trans (List.perm_append_comm_assoc _ _ _))).trans ((List.Perm.append_left _ ((List.Perm.append_left _ ((List.Perm.append_left _ ((List.Perm.append_left _ (List.perm_append_comm)).trans (List.perm_append_comm_assoc _ _ _))).trans (List.perm_append_comm_assoc _ _ _))).trans (List.perm_append_comm_assoc _ _ _))).trans (List.perm_append_comm_assoc _ _ _))).trans ((List.Perm.append_left _ ((List.Perm.append_left _ ((List.Perm.append_left _ ((List.Perm.append_left _ (List.perm_append_comm)).trans (List.perm_append_comm_assoc _ _ _))).trans (List.perm_append_comm_assoc _ _ _))).trans (List.perm_append_comm_assoc _ _ _))).trans (List.perm_append_comm_assoc _ _ _))) : List.Perm (α := Nat × va_E) (t0 ++ (t1 ++ (t2 ++ (t3 ++ (t4 ++ (t5)))))) (t0 ++ (t1 ++ (t2 ++ (t3 ++ (t4 ++ (t5))))))).trans (List.Perm.of_eq (by first | rfl | simp only [List.append_assoc, List.nil_append, List.append_nil])))
theorem uj_23 (t0 t1 t2 t3 t4 t5 t6 : va_W) : List.Perm (α := Nat × va_E) (t0 ++ (t1 ++ (t2 ++ (t3 ++ (([] : va_W) ++ (t4 ++ (t5 ++ (t6)))))))) ((t0 ++ (t1 ++ (t2 ++ (t3)))) ++ (t4 ++ (t5 ++ (t6)))) := (List.Perm.of_eq (show (t0 ++ (t1 ++ (t2 ++ (t3 ++ (([] : va_W) ++ (t4 ++ (t5 ++ (t6))))))) : va_W) = t0 ++ (t1 ++ (t2 ++ (t3 ++ (t4 ++ (t5 ++ (t6)))))) from by first | rfl | simp only [List.append_assoc, List.nil_append, List.append_nil])).trans ((((((((((List.Perm.append_left _ ((List.Perm.append_left _ ((List.Perm.append_left _ ((List.Perm.append_left _ ((List.Perm.append_left _ (List.perm_append_comm)).trans (List.perm_append_comm_assoc _ _ _))).trans (List.perm_append_comm_assoc _ _ _))).trans (List.perm_append_comm_assoc _ _ _))).trans (List.perm_append_comm_assoc _ _ _))).trans (List.perm_append_comm_assoc _ _ _)).trans ((List.Perm.append_left _ ((List.Perm.append_left _ ((List.Perm.append_left _ ((List.Perm.append_left _ ((List.Perm.append_left _ (List.perm_append_comm)).trans (List.perm_append_comm_assoc _ _ _))).trans (List.perm_append_comm_assoc _ _ _))).trans (List.perm_append_comm_assoc _ _ _))).trans (List.perm_append_comm_assoc _ _ _))).trans (List.perm_append_comm_assoc _ _ _))).trans ((List.Perm.append_left _ ((List.Perm.append_left _ ((List.Perm.append_left _ ((List.Perm.append_left _ ((List.Perm.append_left _ (List.perm_append_comm)).trans (List.perm_append_comm_assoc _ _ _))).trans (List.perm_append_comm_assoc _ _ _))).trans (List.perm_append_comm_assoc _ _ _))).trans (List.perm_append_comm_assoc _ _ _))).trans (List.perm_append_comm_assoc _ _ _))).trans ((List.Perm.append_left _ ((List.Perm.append_left _ ((List.Perm.append_left _ ((List.Perm.append_left _ ((List.Perm.append_left _ (List.perm_append_comm)).trans (List.perm_append_comm_assoc _ _ _))).trans (List.perm_append_comm_assoc _ _ _))).trans (List.perm_append_comm_assoc _ _ _))).trans (List.perm_append_comm_assoc _ _ _))).trans (List.perm_append_comm_assoc _ _ _))).trans ((List.Perm.append_left _ ((List.Perm.append_left _ ((List.Perm.append_left _ ((List.Perm.append_left _ ((List.Perm.append_left _ (List.perm_append_comm)).trans (List.perm_append_comm_assoc _ _ _))).trans (List.perm_append_comm_assoc _ _ _))).trans (List.perm_append_comm_assoc _ _ _))).trans (List.perm_append_comm_assoc _ _ _))).trans (List.perm_append_comm_assoc _ _ _))).trans ((List.Perm.append_left _ ((List.Perm.append_left _ ((List.Perm.append_left _ ((List.Perm.append_left _ ((List.Perm.append_left _ (List.perm_append_comm)).trans (List.perm_append_comm_assoc _ _ _))).trans (List.perm_append_comm_assoc _ _ _))).trans (List.perm_append_comm_assoc _ _ _))).trans (List.perm_append_comm_assoc _ _ _))).trans (List.perm_append_comm_assoc _ _ _))).trans ((List.Perm.append_left _ ((List.Perm.append_left _ ((List.Perm.append_left _ ((List.Perm.append_left _ ((List.Perm.append_left _ (List.perm_append_comm)).trans (List.perm_append_comm_assoc _ _ _))).trans (List.perm_append_comm_assoc _ _ _))).trans (List.perm_append_comm_assoc _ _ _))).trans (List.perm_append_comm_assoc _ _ _))).trans (List.perm_append_comm_assoc _ _ _))) : List.Perm (α := Nat × va_E) (t0 ++ (t1 ++ (t2 ++ (t3 ++ (t4 ++ (t5 ++ (t6))))))) (t0 ++ (t1 ++ (t2 ++ (t3 ++ (t4 ++ (t5 ++ (t6)))))))).trans (List.Perm.of_eq (by first | rfl | simp only [List.append_assoc, List.nil_append, List.append_nil])))
theorem uj_24 (t0 t1 t2 t3 t4 t5 t6 t7 t8 : va_W) : List.Perm (α := Nat × va_E) (t0 ++ (t1 ++ (t2 ++ (([] : va_W) ++ ((t3 ++ (t4 ++ (t5))) ++ (t6 ++ (t7 ++ (t8)))))))) ((t0 ++ (t1 ++ (t2 ++ (t3 ++ (t4 ++ (t5)))))) ++ (t6 ++ (t7 ++ (t8)))) := (List.Perm.of_eq (show (t0 ++ (t1 ++ (t2 ++ (([] : va_W) ++ ((t3 ++ (t4 ++ (t5))) ++ (t6 ++ (t7 ++ (t8))))))) : va_W) = t0 ++ (t1 ++ (t2 ++ (t3 ++ (t4 ++ (t5 ++ (t6 ++ (t7 ++ (t8)))))))) from by first | rfl | simp only [List.append_assoc, List.nil_append, List.append_nil])).trans ((((((((((((List.Perm.append_left _ ((List.Perm.append_left _ ((List.Perm.append_left _ ((List.Perm.append_left _ ((List.Perm.append_left _ ((List.Perm.append_left _ ((List.Perm.append_left _ (List.perm_append_comm)).trans (List.perm_append_comm_assoc _ _ _))).trans (List.perm_append_comm_assoc _ _ _))).trans (List.perm_append_comm_assoc _ _ _))).trans (List.perm_append_comm_assoc _ _ _))).trans (List.perm_append_comm_assoc _ _ _))).trans (List.perm_append_comm_assoc _ _ _))).trans (List.perm_append_comm_assoc _ _ _)).trans ((List.Perm.append_left _ ((List.Perm.append_left _ ((List.Perm.append_left _ ((List.Perm.append_left _ ((List.Perm.append_left _ ((List.Perm.append_left _ ((List.Perm.append_left _ (List.perm_append_comm)).trans (List.perm_append_comm_assoc _ _ _))).trans (List.perm_append_comm_assoc _ _ _))).trans (List.perm_append_comm_assoc _ _ _))).trans (List.perm_append_comm_assoc _ _ _))).trans (List.perm_append_comm_assoc _ _ _))).trans (List.perm_append_comm_assoc _ _ _))).trans (List.perm_append_comm_assoc _ _ _))).trans ((List.Perm.append_left _ ((List.Perm.append_left _ ((List.Perm.append_left _ ((List.Perm.append_left _ ((List.Perm.append_left _ ((List.Perm.append_left _ ((List.Perm.append_left _ (List.perm_append_comm)).trans (List.perm_append_comm_assoc _ _ _))).trans (List.perm_append_comm_assoc _ _ _))).trans (List.perm_append_comm_assoc _ _ _))).trans (List.perm_append_comm_assoc _ _ _))).trans (List.perm_append_comm_assoc _ _ _))).trans (List.perm_append_comm_assoc _ _ _))).trans (List.perm_append_comm_assoc _ _ _))).trans ((List.Perm.append_left _ ((List.Perm.append_left _ ((List.Perm.append_left _ ((List.Perm.append_left _ ((List.Perm.append_left _ ((List.Perm.append_left _ ((List.Perm.append_left _ (List.perm_append_comm)).trans (List.perm_append_comm_assoc _ _ _))).trans (List.perm_append_comm_assoc _ _ _))).trans (List.perm_append_comm_assoc _ _ _))).trans (List.perm_append_comm_assoc _ _ _))).trans (List.perm_append_comm_assoc _ _ _))).trans (List.perm_append_comm_assoc _ _ _))).trans (List.perm_append_comm_assoc _ _ _))).trans ((List.Perm.append_left _ ((List.Perm.append_left _ ((List.Perm.append_left _ ((List.Perm.append_left _ ((List.Perm.append_left _ ((List.Perm.append_left _ ((List.Perm.append_left _ (List.perm_append_comm)).trans (List.perm_append_comm_assoc _ _ _))).trans (List.perm_append_comm_assoc _ _ _))).trans (List.perm_append_comm_assoc _ _ _))).trans (List.perm_append_comm_assoc _ _ _))).trans (List.perm_append_comm_assoc _ _ _))).trans (List.perm_append_comm_assoc _ _ _))).trans (List.perm_append_comm_assoc _ _ _))).trans ((List.Perm.append_left _ ((List.Perm.append_left _ ((List.Perm.append_left _ ((List.Perm.append_left _ ((List.Perm.append_left _ ((List.Perm.append_left _ ((List.Perm.append_left _ (List.perm_append_comm)).trans (List.perm_append_comm_assoc _ _ _))).trans (List.perm_append_comm_assoc _ _ _))).trans (List.perm_append_comm_assoc _ _ _))).trans (List.perm_append_comm_assoc _ _ _))).trans (List.perm_append_comm_assoc _ _ _))).trans (List.perm_append_comm_assoc _ _ _))).trans (List.perm_append_comm_assoc _ _ _))).trans ((List.Perm.append_left _ ((List.Perm.append_left _ ((List.Perm.append_left _ ((List.Perm.append_left _ ((List.Perm.append_left _ ((List.Perm.append_left _ ((List.Perm.append_left _ (List.perm_append_comm)).trans (List.perm_append_comm_assoc _ _ _))).trans (List.perm_append_comm_assoc _ _ _))).trans (List.perm_append_comm_assoc _ _ _))).trans (List.perm_append_comm_assoc _ _ _))).trans (List.perm_append_comm_assoc _ _ _))).trans (List.perm_append_comm_assoc _ _ _))).trans (List.perm_append_comm_assoc _ _ _))).trans ((List.Perm.append_left _ ((List.Perm.append_left _ ((List.Perm.append_left _ ((List.Perm.append_left _ ((List.Perm.append_left _ ((List.Perm.append_left _ ((List.Perm.append_left _ (List.perm_append_comm)).trans (List.perm_append_comm_assoc _ _ _))).trans (List.perm_append_comm_assoc _ _ _))).trans (List.perm_append_comm_assoc _ _ _))).trans (List.perm_append_comm_assoc _ _ _))).trans (List.perm_append_comm_assoc _ _ _))).trans (List.perm_append_comm_assoc _ _ _))).trans (List.perm_append_comm_assoc _ _ _))).trans ((List.Perm.append_left _ ((List.Perm.append_left _ ((List.Perm.append_left _ ((List.Perm.append_left _ ((List.Perm.append_left _ ((List.Perm.append_left _ ((List.Perm.append_left _ (List.perm_append_comm)).trans (List.perm_append_comm_assoc _ _ _))).trans (List.perm_append_comm_assoc _ _ _))).trans (List.perm_append_comm_assoc _ _ _))).trans (List.perm_append_comm_assoc _ _ _))).trans (List.perm_append_comm_assoc _ _ _))).trans (List.perm_append_comm_assoc _ _ _))).trans (List.perm_append_comm_assoc _ _ _))) : List.Perm (α := Nat × va_E) (t0 ++ (t1 ++ (t2 ++ (t3 ++ (t4 ++ (t5 ++ (t6 ++ (t7 ++ (t8))))))))) (t0 ++ (t1 ++ (t2 ++ (t3 ++ (t4 ++ (t5 ++ (t6 ++ (t7 ++ (t8)))))))))).trans (List.Perm.of_eq (by first | rfl | simp only [List.append_assoc, List.nil_append, List.append_nil])))
theorem uj_25 (t0 t1 t2 t3 t4 t5 t6 t7 t8 t9 : va_W) : List.Perm (α := Nat × va_E) (t0 ++ (t1 ++ (t2 ++ (t3 ++ ((t4 ++ (t5 ++ (t6))) ++ (t7 ++ (t8 ++ (t9)))))))) ((t0 ++ (t1 ++ (t2 ++ (t3 ++ (t4 ++ (t5 ++ (t6))))))) ++ (t7 ++ (t8 ++ (t9)))) := (List.Perm.of_eq (show (t0 ++ (t1 ++ (t2 ++ (t3 ++ ((t4 ++ (t5 ++ (t6))) ++ (t7 ++ (t8 ++ (t9))))))) : va_W) = t0 ++ (t1 ++ (t2 ++ (t3 ++ (t4 ++ (t5 ++ (t6 ++ (t7 ++ (t8 ++ (t9))))))))) from by first | rfl | simp only [List.append_assoc, List.nil_append, List.append_nil])).trans (((((((((((((List.Perm.append_left _ ((List.Perm.append_left _ ((List.Perm.append_left _ ((List.Perm.append_left _ ((List.Perm.append_left _ ((List.Perm.append_left _ ((List.Perm.append_left _ ((List.Perm.append_left _ (List.perm_append_comm)).trans (List.perm_append_comm_assoc _ _ _))).trans (List.perm_append_comm_assoc _ _ _))).trans (List.perm_append_comm_assoc _ _ _))).trans (List.perm_append_comm_assoc _ _ _))).trans (List.perm_append_comm_assoc _ _ _))).trans (List.perm_append_comm_assoc _ _ _))).trans (List.perm_append_comm_assoc _ _ _))).trans (List.perm_append_comm_assoc _ _ _)).trans ((List.Perm.append_left _ ((List.Perm.append_left _ ((List.Perm.append_left _ ((List.Perm.append_left _ ((List.Perm.append_left _ ((List.Perm.append_left _ ((List.Perm.append_left _ ((List.Perm.append_left _ (List.perm_append_comm)).trans (List.perm_append_comm_assoc _ _ _))).trans (List.perm_append_comm_assoc _ _ _))).trans (List.perm_append_comm_assoc _ _ _))).trans (List.perm_append_comm_assoc _ _ _))).trans (List.perm_append_comm_assoc _ _ _))).trans (List.perm_append_comm_assoc _ _ _))).trans (List.perm_append_comm_assoc _ _ _))).trans (List.perm_append_comm_assoc _ _ _))).trans ((List.Perm.append_left _ ((List.Perm.append_left _ ((List.Perm.append_left _ ((List.Perm.append_left _ ((List.Perm.append_left _ ((List.Perm.append_left _ ((List.Perm.append_left _ ((List.Perm.append_left _ (List.perm_append_comm)).trans (List.perm_append_comm_assoc _ _ _))).trans (List.perm_append_comm_assoc _ _ _))).trans (List.perm_append_comm_assoc _ _ _))).trans (List.perm_append_comm_assoc _ _ _))).trans (List.perm_append_comm_assoc _ _ _))).trans (List.perm_append_comm_assoc _ _ _))).trans (List.perm_append_comm_assoc _ _ _))).trans (List.perm_append_comm_assoc _ _ _))).trans ((List.Perm.append_left _ ((List.Perm.append_left _ ((List.Perm.append_left _ ((List.Perm.append_left _ ((List.Perm.append_left _ ((List.Perm.append_left _ ((List.Perm.append_left _ ((List.Perm.append_left _ (List.perm_append_comm)).trans (List.perm_append_comm_assoc _ _ _))).trans (List.perm_append_comm_assoc _ _ _))).trans (List.perm_append_comm_assoc _ _ _))).trans (List.perm_append_comm_assoc _ _ _))).trans (List.perm_append_comm_assoc _ _ _))).trans (List.perm_append_comm_assoc _ _ _))).trans (List.perm_append_comm_assoc _ _ _))).trans (List.perm_append_comm_assoc _ _ _))).trans ((List.Perm.append_left _ ((List.Perm.append_left _ ((List.Perm.append_left _ ((List.Perm.append_left _ ((List.Perm.append_left _ ((List.Perm.append_left _ ((List.Perm.append_left _ ((List.Perm.append_left _ (List.perm_append_comm)).trans (List.perm_append_comm_assoc _ _ _))).trans (List.perm_append_comm_assoc _ _ _))).trans (List.perm_append_comm_assoc _ _ _))).trans (List.perm_append_comm_assoc _ _ _))).trans (List.perm_append_comm_assoc _ _ _))).trans (List.perm_append_comm_assoc _ _ _))).trans (List.perm_append_comm_assoc _ _ _))).trans (List.perm_append_comm_assoc _ _ _))).trans ((List.Perm.append_left _ ((List.Perm.append_left _ ((List.Perm.append_left _ ((List.Perm.append_left _ ((List.Perm.append_left _ ((List.Perm.append_left _ ((List.Perm.append_left _ ((List.Perm.append_left _ (List.perm_append_comm)).trans (List.perm_append_comm_assoc _ _ _))).trans (List.perm_append_comm_assoc _ _ _))).trans (List.perm_append_comm_assoc _ _ _))).trans (List.perm_append_comm_assoc _ _ _))).trans (List.perm_append_comm_assoc _ _ _))).trans (List.perm_append_comm_assoc _ _ _))).trans (List.perm_append_comm_assoc _ _ _))).trans (List.perm_append_comm_assoc _ _ _))).trans ((List.Perm.append_left _ ((List.Perm.append_left _ ((List.Perm.append_left _ ((List.Perm.append_left _ ((List.Perm.append_left _ ((List.Perm.append_left _ ((List.Perm.append_left _ ((List.Perm.append_left _ (List.perm_append_comm)).trans (List.perm_append_comm_assoc _ _ _))).trans (List.perm_append_comm_assoc _ _ _))).trans (List.perm_append_comm_assoc _ _ _))).trans (List.perm_append_comm_assoc _ _ _))).trans (List.perm_append_comm_assoc _ _ _))).trans (List.perm_append_comm_assoc _ _ _))).trans (List.perm_append_comm_assoc _ _ _))).trans (List.perm_append_comm_assoc _ _ _))).trans ((List.Perm.append_left _ ((List.Perm.append_left _ ((List.Perm.append_left _ ((List.Perm.append_left _ ((List.Perm.append_left _ ((List.Perm.append_left _ ((List.Perm.append_left _ ((List.Perm.append_left _ (List.perm_append_comm)).trans (List.perm_append_comm_assoc _ _ _))).trans (List.perm_append_comm_assoc _ _ _))).trans (List.perm_append_comm_assoc _ _ _))).trans (List.perm_append_comm_assoc _ _ _))).trans (List.perm_append_comm_assoc _ _ _))).trans (List.perm_append_comm_assoc _ _ _))).trans (List.perm_append_comm_assoc _ _ _))).trans (List.perm_append_comm_assoc _ _ _))).trans ((List.Perm.append_left _ ((List.Perm.append_left _ ((List.Perm.append_left _ ((List.Perm.append_left _ ((List.Perm.append_left _ ((List.Perm.append_left _ ((List.Perm.append_left _ ((List.Perm.append_left _ (List.perm_append_comm)).trans (List.perm_append_comm_assoc _ _ _))).trans (List.perm_append_comm_assoc _ _ _))).trans (List.perm_append_comm_assoc _ _ _))).trans (List.perm_append_comm_assoc _ _ _))).trans (List.perm_append_comm_assoc _ _ _))).trans (List.perm_append_comm_assoc _ _ _))).trans (List.perm_append_comm_assoc _ _ _))).trans (List.perm_append_comm_assoc _ _ _))).trans ((List.Perm.append_left _ ((List.Perm.append_left _ ((List.Perm.append_left _ ((List.Perm.append_left _ ((List.Perm.append_left _ ((List.Perm.append_left _ ((List.Perm.append_left _ ((List.Perm.append_left _ (List.perm_append_comm)).trans (List.perm_append_comm_assoc _ _ _))).trans (List.perm_append_comm_assoc _ _ _))).trans (List.perm_append_comm_assoc _ _ _))).trans (List.perm_append_comm_assoc _ _ _))).trans (List.perm_append_comm_assoc _ _ _))).trans (List.perm_append_comm_assoc _ _ _))).trans (List.perm_append_comm_assoc _ _ _))).trans (List.perm_append_comm_assoc _ _ _))) : List.Perm (α := Nat × va_E) (t0 ++ (t1 ++ (t2 ++ (t3 ++ (t4 ++ (t5 ++ (t6 ++ (t7 ++ (t8 ++ (t9)))))))))) (t0 ++ (t1 ++ (t2 ++ (t3 ++ (t4 ++ (t5 ++ (t6 ++ (t7 ++ (t8 ++ (t9))))))))))).trans (List.Perm.of_eq (by first | rfl | simp only [List.append_assoc, List.nil_append, List.append_nil])))
theorem uj_26 (t0 t1 t2 t3 t4 t5 t6 t7 t8 t9 : va_W) : List.Perm (α := Nat × va_E) (t0 ++ (t1 ++ (t2 ++ (([] : va_W) ++ ((t3 ++ (t4 ++ (t5 ++ (t6)))) ++ (t7 ++ (t8 ++ (t9)))))))) ((t0 ++ (t1 ++ (t2 ++ (t3 ++ (t4 ++ (t5 ++ (t6))))))) ++ (t7 ++ (t8 ++ (t9)))) := (List.Perm.of_eq (show (t0 ++ (t1 ++ (t2 ++ (([] : va_W) ++ ((t3 ++ (t4 ++ (t5 ++ (t6)))) ++ (t7 ++ (t8 ++ (t9))))))) : va_W) = t0 ++ (t1 ++ (t2 ++ (t3 ++ (t4 ++ (t5 ++ (t6 ++ (t7 ++ (t8 ++ (t9))))))))) from by first | rfl | simp only [List.append_assoc, List.nil_append, List.append_nil])).trans (((((((((((((List.Perm.append_left _ ((List.Perm.append_left _ ((List.Perm.append_left _ ((List.Perm.append_left _ ((List.Perm.append_left _ ((List.Perm.append_left _ ((List.Perm.append_left _ ((List.Perm.append_left _ (List.perm_append_comm)).trans (List.perm_append_comm_assoc _ _ _))).trans (List.perm_append_comm_assoc _ _ _))).trans (List.perm_append_comm_assoc _ _ _))).trans (List.perm_append_comm_assoc _ _ _))).trans (List.perm_append_comm_assoc _ _ _))).trans (List.perm_append_comm_assoc _ _ _))).trans (List.perm_append_comm_assoc _ _ _))).trans (List.perm_append_comm_assoc _ _ _)).trans ((List.Perm.append_left _ ((List.Perm.append_left _ ((List.Perm.append_left _ ((List.Perm.append_left _ ((List.Perm.append_left _ ((List.Perm.append_left _ ((List.Perm.append_left _ ((List.Perm.append_left _ (List.perm_append_comm)).trans (List.perm_append_comm_assoc _ _ _))).trans (List.perm_append_comm_assoc _ _ _))).trans (List.perm_append_comm_assoc _ _ _))).trans (List.perm_append_comm_assoc _ _ _))).trans (List.perm_append_comm_assoc _ _ _))).trans (List.perm_append_comm_assoc _ _ _))).trans (List.perm_append_comm_assoc _ _ _))).trans (List.perm_append_comm_assoc _ _ _))).trans ((List.Perm.append_left _ ((List.Perm.append_left _ ((List.Perm.append_left _ ((List.Perm.append_left _ ((List.Perm.append_left _ ((List.Perm.append_left _ ((List.Perm.append_left _ ((List.Perm.append_left _ (List.perm_append_comm)).trans (List.perm_append_comm_assoc _ _ _))).trans (List.perm_append_comm_assoc _ _ _))).trans (List.perm_append_comm_assoc _ _ _))).trans (List.perm_append_comm_assoc _ _ _))).trans (List.perm_append_comm_assoc _ _ _))).trans (List.perm_append_comm_assoc _ _ _))).trans (List.perm_append_comm_assoc _ _ _))).trans (List.perm_append_comm_assoc _ _ _))).trans ((List.Perm.append_left _ ((List.Perm.append_left _ ((List.Perm.append_left _ ((List.Perm.append_left _ ((List.Perm.append_left _ ((List.Perm.append_left _ ((List.Perm.append_left _ ((List.Perm.append_left _ (List.perm_append_comm)).trans (List.perm_append_comm_assoc _ _ _))).trans (List.perm_append_comm_assoc _ _ _))).trans (List.perm_append_comm_assoc _ _ _))).trans (List.perm_append_comm_assoc _ _ _))).trans (List.perm_append_comm_assoc _ _ _))).trans (List.perm_append_comm_assoc _ _ _))).trans (List.perm_append_comm_assoc _ _ _))).trans (List.perm_append_comm_assoc _ _ _))).trans ((List.Perm.append_left _ ((List.Perm.append_left _ ((List.Perm.append_left _ ((List.Perm.append_left _ ((List.Perm.append_left _ ((List.Perm.append_left _ ((List.Perm.append_left _ ((List.Perm.append_left _ (List.perm_append_comm)).trans (List.perm_append_comm_assoc _ _ _))).trans (List.perm_append_comm_assoc _ _ _))).trans (List.perm_append_comm_assoc _ _ _))).trans (List.perm_append_comm_assoc _ _ _))).trans (List.perm_append_comm_assoc _ _ _))).trans (List.perm_append_comm_assoc _ _ _))).trans (List.perm_append_comm_assoc _ _ _))).trans (List.perm_append_comm_assoc _ _ _))).trans ((List.Perm.append_left _ ((List.Perm.append_left _ ((List.Perm.append_left _ ((List.Perm.append_left _ ((List.Perm.append_left _ ((List.Perm.append_left _ ((List.Perm.append_left _ ((List.Perm.append_left _ (List.perm_append_comm)).trans (List.perm_append_comm_assoc _ _ _))).trans (List.perm_append_comm_assoc _ _ _))).trans (List.perm_append_comm_assoc _ _ _))).trans (List.perm_append_comm_assoc _ _ _))).trans (List.perm_append_comm_assoc _ _ _))).trans (List.perm_append_comm_assoc _ _ _))).trans (List.perm_append_comm_assoc _ _ _))).trans (List.perm_append_comm_assoc _ _ _))).trans ((List.Perm.append_left _ ((List.Perm.append_left _ ((List.Perm.append_left _ ((List.Perm.append_left _ ((List.Perm.append_left _ ((List.Perm.append_left _ ((List.Perm.append_left _ ((List.Perm.append_left _ (List.perm_append_comm)).trans (List.perm_append_comm_assoc _ _ _))).trans (List.perm_append_comm_assoc _ _ _))).trans (List.perm_append_comm_assoc _ _ _))).trans (List.perm_append_comm_assoc _ _ _))).trans (List.perm_append_comm_assoc _ _ _))).trans (List.perm_append_comm_assoc _ _ _))).trans (List.perm_append_comm_assoc _ _ _))).trans (List.perm_append_comm_assoc _ _ _))).trans ((List.Perm.append_left _ ((List.Perm.append_left _ ((List.Perm.append_left _ ((List.Perm.append_left _ ((List.Perm.append_left _ ((List.Perm.append_left _ ((List.Perm.append_left _ ((List.Perm.append_left _ (List.perm_append_comm)).trans (List.perm_append_comm_assoc _ _ _))).trans (List.perm_append_comm_assoc _ _ _))).trans (List.perm_append_comm_assoc _ _ _))).trans (List.perm_append_comm_assoc _ _ _))).trans (List.perm_append_comm_assoc _ _ _))).trans (List.perm_append_comm_assoc _ _ _))).trans (List.perm_append_comm_assoc _ _ _))).trans (List.perm_append_comm_assoc _ _ _))).trans ((List.Perm.append_left _ ((List.Perm.append_left _ ((List.Perm.append_left _ ((List.Perm.append_left _ ((List.Perm.append_left _ ((List.Perm.append_left _ ((List.Perm.append_left _ ((List.Perm.append_left _ (List.perm_append_comm)).trans (List.perm_append_comm_assoc _ _ _))).trans (List.perm_append_comm_assoc _ _ _))).trans (List.perm_append_comm_assoc _ _ _))).trans (List.perm_append_comm_assoc _ _ _))).trans (List.perm_append_comm_assoc _ _ _))).trans (List.perm_append_comm_assoc _ _ _))).trans (List.perm_append_comm_assoc _ _ _))).trans (List.perm_append_comm_assoc _ _ _))).trans ((List.Perm.append_left _ ((List.Perm.append_left _ ((List.Perm.append_left _ ((List.Perm.append_left _ ((List.Perm.append_left _ ((List.Perm.append_left _ ((List.Perm.append_left _ ((List.Perm.append_left _ (List.perm_append_comm)).trans (List.perm_append_comm_assoc _ _ _))).trans (List.perm_append_comm_assoc _ _ _))).trans (List.perm_append_comm_assoc _ _ _))).trans (List.perm_append_comm_assoc _ _ _))).trans (List.perm_append_comm_assoc _ _ _))).trans (List.perm_append_comm_assoc _ _ _))).trans (List.perm_append_comm_assoc _ _ _))).trans (List.perm_append_comm_assoc _ _ _))) : List.Perm (α := Nat × va_E) (t0 ++ (t1 ++ (t2 ++ (t3 ++ (t4 ++ (t5 ++ (t6 ++ (t7 ++ (t8 ++ (t9)))))))))) (t0 ++ (t1 ++ (t2 ++ (t3 ++ (t4 ++ (t5 ++ (t6 ++ (t7 ++ (t8 ++ (t9))))))))))).trans (List.Perm.of_eq (by first | rfl | simp only [List.append_assoc, List.nil_append, List.append_nil])))
theorem uj_27 (t0 t1 t2 t3 t4 t5 t6 t7 t8 t9 t10 : va_W) : List.Perm (α := Nat × va_E) (t0 ++ (t1 ++ (t2 ++ (t3 ++ ((t4 ++ (t5 ++ (t6 ++ (t7)))) ++ (t8 ++ (t9 ++ (t10)))))))) ((t0 ++ (t1 ++ (t2 ++ (t3 ++ (t4 ++ (t5 ++ (t6 ++ (t7)))))))) ++ (t8 ++ (t9 ++ (t10)))) := (List.Perm.of_eq (show (t0 ++ (t1 ++ (t2 ++ (t3 ++ ((t4 ++ (t5 ++ (t6 ++ (t7)))) ++ (t8 ++ (t9 ++ (t10))))))) : va_W) = t0 ++ (t1 ++ (t2 ++ (t3 ++ (t4 ++ (t5 ++ (t6 ++ (t7 ++ (t8 ++ (t9 ++ (t10)))))))))) from by first | rfl | simp only [List.append_assoc, List.nil_append, List.append_nil])).trans ((((((((((((((List.Perm.append_left _ ((List.Perm.append_left _ ((List.Perm.append_left _ ((List.Perm.append_left _ ((List.Perm.append_left _ ((List.Perm.append_left _ ((List.Perm.append_left _ ((List.Perm.append_left _ ((List.Perm.append_left _ (List.perm_append_comm)).trans (List.perm_append_comm_assoc _ _ _))).trans (List.perm_append_comm_assoc _ _ _))).trans (List.perm_append_comm_assoc _ _ _))).trans (List.perm_append_comm_assoc _ _ _))).trans (List.perm_append_comm_assoc _ _ _))).trans (List.perm_append_comm_assoc _ _ _))).trans (List.perm_append_comm_assoc _ _ _))).trans (List.perm_append_comm_assoc _ _ _))).trans (List.perm_append_comm_assoc _ _ _)).trans ((List.Perm.append_left _ ((List.Perm.append_left _ ((List.Perm.append_left _ ((List.Perm.append_left _ ((List.Perm.append_left _ ((List.Perm.append_left _ ((List.Perm.append_left _ ((List.Perm.append_left _ ((List.Perm.append_left _ (List.perm_append_comm)).trans (List.perm_append_comm_assoc _ _ _))).trans (List.perm_append_comm_assoc _ _ _))).trans (List.perm_append_comm_assoc _ _ _))).trans (List.perm_append_comm_assoc _ _ _))).trans (List.perm_append_comm_assoc _ _ _))).trans (List.perm_append_comm_assoc _ _ _))).trans (List.perm_append_comm_assoc _ _ _))).trans (List.perm_append_comm_assoc _ _ _))).trans (List.perm_append_comm_assoc _ _ _))).trans ((List.Perm.append_left _ ((List.Perm.append_left _ ((List.Perm.append_left _ ((List.Perm.append_left _ ((List.Perm.append_left _ ((List.Perm.append_left _ ((List.Perm.append_left _ ((List.Perm.append_left _ ((List.Perm.append_left _ (List.perm_append_comm)).trans (List.perm_append_comm_assoc _ _ _))).trans (List.perm_append_comm_assoc _ _ _))).trans (List.perm_append_comm_assoc _ _ _))).trans (List.perm_append_comm_assoc _ _ _))).trans (List.perm_append_comm_assoc _ _ _))).trans (List.perm_append_comm_assoc _ _ _))).trans (List.perm_append_comm_assoc _ _ _))).trans (List.perm_append_comm_assoc _ _ _))).trans (List.perm_append_comm_assoc _ _ _))).trans ((List.Perm.append_left _ ((List.Perm.append_left _ ((List.Perm.append_left _ ((List.Perm.append_left _ ((List.Perm.append_left _ ((List.Perm.append_left _ ((List.Perm.append_left _ ((List.Perm.append_left _ ((List.Perm.append_left _ (List.perm_append_comm)).trans (List.perm_append_comm_assoc _ _ _))).trans (List.perm_append_comm_assoc _ _ _))).trans (List.perm_append_comm_assoc _ _ _))).trans (List.perm_append_comm_assoc _ _ _))).trans (List.perm_append_comm_assoc _ _ _))).trans (List.perm_append_comm_assoc _ _ _))).trans (List.perm_append_comm_assoc _ _ _))).trans (List.perm_append_comm_assoc _ _ _))).trans (List.perm_append_comm_assoc _ _ _))).trans ((List.Perm.append_left _ ((List.Perm.append_left _ ((List.Perm.append_left _ ((List.Perm.append_left _ ((List.Perm.append_left _ ((List.Perm.append_left _ ((List.Perm.append_left _ ((List.Perm.append_left _ ((List.Perm.append_left _ (List.perm_append_comm)).trans (List.perm_append_comm_assoc _ _ _))).trans (List.perm_append_comm_assoc _ _ _))).trans (List.perm_append_comm_assoc _ _ _))).trans (List.perm_append_comm_assoc _ _ _))).trans (List.perm_append_comm_assoc _ _ _))).trans (List.perm_append_comm_assoc _ _ _))).trans (List.perm_append_comm_assoc _ _ _))).trans (List.perm_append_comm_assoc _ _ _))).trans (List.perm_append_comm_assoc _ _ _))).trans ((List.Perm.append_left _ ((List.Perm.append_left _ ((List.Perm.append_left _ ((List.Perm.append_left _ ((List.Perm.append_left _ ((List.Perm.append_left _ ((List.Perm.append_left _ ((List.Perm.append_left _ ((List.Perm.append_left _ (List.perm_append_comm)).trans (List.perm_append_comm_assoc _ _ _))).trans (List.perm_append_comm_assoc _ _ _))).trans (List.perm_append_comm_assoc _ _ _))).trans (List.perm_append_comm_assoc _ _ _))).trans (List.perm_append_comm_assoc _ _ _))).trans (List.perm_append_comm_assoc _ _ _))).trans (List.perm_append_comm_assoc _ _ _))).trans (List.perm_append_comm_assoc _ _ _))).trans (List.perm_append_comm_assoc _ _ _))).trans ((List.Perm.append_left _ ((List.Perm.append_left _ ((List.Perm.append_left _ ((List.Perm.append_left _ ((List.Perm.append_left _ ((List.Perm.append_left _ ((List.Perm.append_left _ ((List.Perm.append_left _ ((List.Perm.append_left _ (List.perm_append_comm)).trans (List.perm_append_comm_assoc _ _ _))).trans (List.perm_append_comm_assoc _ _ _))).trans (List.perm_append_comm_assoc _ _ _))).trans (List.perm_append_comm_assoc _ _ _))).trans (List.perm_append_comm_assoc _ _ _))).trans (List.perm_append_comm_assoc _ _ _))).trans (List.perm_append_comm_assoc _ _ _))).trans (List.perm_append_comm_assoc _ _ _))).trans (List.perm_append_comm_assoc _ _ _))).trans ((List.Perm.append_left _ ((List.Perm.append_left _ ((List.Perm.append_left _ ((List.Perm.append_left _ ((List.Perm.append_left _ ((List.Perm.append_left _ ((List.Perm.append_left _ ((List.Perm.append_left _ ((List.Perm.append_left _ (List.perm_append_comm)).trans (List.perm_append_comm_assoc _ _ _))).trans (List.perm_append_comm_assoc _ _ _))).trans (List.perm_append_comm_assoc _ _ _))).trans (List.perm_append_comm_assoc _ _ _))).trans (List.perm_append_comm_assoc _ _ _))).trans (List.perm_append_comm_assoc _ _ _))).trans (List.perm_append_comm_assoc _ _ _))).trans (List.perm_append_comm_assoc _ _ _))).trans (List.perm_append_comm_assoc _ _ _))).trans ((List.Perm.append_left _ ((List.Perm.append_left _ ((List.Perm.append_left _ ((List.Perm.append_left _ ((List.Perm.append_left _ ((List.Perm.append_left _ ((List.Perm.append_left _ ((List.Perm.append_left _ ((List.Perm.append_left _ (List.perm_append_comm)).trans (List.perm_append_comm_assoc _ _ _))).trans (List.perm_append_comm_assoc _ _ _))).trans (List.perm_append_comm_assoc _ _ _))).trans (List.perm_append_comm_assoc _ _ _))).trans (List.perm_append_comm_assoc _ _ _))).trans (List.perm_append_comm_assoc _ _ _))).trans (List.perm_append_comm_assoc _ _ _))).trans (List.perm_append_comm_assoc _ _ _))).trans (List.perm_append_comm_assoc _ _ _))).trans ((List.Perm.append_left _ ((List.Perm.append_left _ ((List.Perm.append_left _ ((List.Perm.append_left _ ((List.Perm.append_left _ ((List.Perm.append_left _ ((List.Perm.append_left _ ((List.Perm.append_left _ ((List.Perm.append_left _ (List.perm_append_comm)).trans (List.perm_append_comm_assoc _ _ _))).trans (List.perm_append_comm_assoc _ _ _))).trans (List.perm_append_comm_assoc _ _ _))).trans (List.perm_append_comm_assoc _ _ _))).trans (List.perm_append_comm_assoc _ _ _))).trans (List.perm_append_comm_assoc _ _ _))).trans (List.perm_append_comm_assoc _ _ _))).trans (List.perm_append_comm_assoc _ _ _))).trans (List.perm_append_comm_assoc _ _ _))).trans ((List.Perm.append_left _ ((List.Perm.append_left _ ((List.Perm.append_left _ ((List.Perm.append_left _ ((List.Perm.append_left _ ((List.Perm.append_left _ ((List.Perm.append_left _ ((List.Perm.append_left _ ((List.Perm.append_left _ (List.perm_append_comm)).trans (List.perm_append_comm_assoc _ _ _))).trans (List.perm_append_comm_assoc _ _ _))).trans (List.perm_append_comm_assoc _ _ _))).trans (List.perm_append_comm_assoc _ _ _))).trans (List.perm_append_comm_assoc _ _ _))).trans (List.perm_append_comm_assoc _ _ _))).trans (List.perm_append_comm_assoc _ _ _))).trans (List.perm_append_comm_assoc _ _ _))).trans (List.perm_append_comm_assoc _ _ _))) : List.Perm (α := Nat × va_E) (t0 ++ (t1 ++ (t2 ++ (t3 ++ (t4 ++ (t5 ++ (t6 ++ (t7 ++ (t8 ++ (t9 ++ (t10))))))))))) (t0 ++ (t1 ++ (t2 ++ (t3 ++ (t4 ++ (t5 ++ (t6 ++ (t7 ++ (t8 ++ (t9 ++ (t10)))))))))))).trans (List.Perm.of_eq (by first | rfl | simp only [List.append_assoc, List.nil_append, List.append_nil])))
theorem uj_28 (t0 t1 t2 t3 t4 t5 t6 t7 t8 : va_W) : List.Perm (α := Nat × va_E) (t0 ++ (t1 ++ (t2 ++ ((t3 ++ (t4 ++ (t5))) ++ (([] : va_W) ++ (t6 ++ (t7 ++ (t8)))))))) ((t0 ++ (t1 ++ (t2 ++ (t3 ++ (t4 ++ (t5)))))) ++ (t6 ++ (t7 ++ (t8)))) := (List.Perm.of_eq (show (t0 ++ (t1 ++ (t2 ++ ((t3 ++ (t4 ++ (t5))) ++ (([] : va_W) ++ (t6 ++ (t7 ++ (t8))))))) : va_W) = t0 ++ (t1 ++ (t2 ++ (t3 ++ (t4 ++ (t5 ++ (t6 ++ (t7 ++ (t8)))))))) from by first | rfl | simp only [List.append_assoc, List.nil_append, List.append_nil])).trans ((((((((((((List.Perm.append_left _ ((List.Perm.append_left _ ((List.Perm.append_left _ ((List.Perm.append_left _ ((List.Perm.append_left _ ((List.Perm.append_left _ ((List.Perm.append_left _ (List.perm_append_comm)).trans (List.perm_append_comm_assoc _ _ _))).trans (List.perm_append_comm_assoc _ _ _))).trans (List.perm_append_comm_assoc _ _ _))).trans (List.perm_append_comm_assoc _ _ _))).trans (List.perm_append_comm_assoc _ _ _))).trans (List.perm_append_comm_assoc _ _ _))).trans (List.perm_append_comm_assoc _ _ _)).trans ((List.Perm.append_left _ ((List.Perm.append_left _ ((List.Perm.append_left _ ((List.Perm.append_left _ ((List.Perm.append_left _ ((List.Perm.append_left _ ((List.Perm.append_left _ (List.perm_append_comm)).trans (List.perm_append_comm_assoc _ _ _))).trans (List.perm_append_comm_assoc _ _ _))).trans (List.perm_append_comm_assoc _ _ _))).trans (List.perm_append_comm_assoc _ _ _))).trans (List.perm_append_comm_assoc _ _ _))).trans (List.perm_append_comm_assoc _ _ _))).trans (List.perm_append_comm_assoc _ _ _))).trans ((List.Perm.append_left _ ((List.Perm.append_left _ ((List.Perm.append_left _ ((List.Perm.append_left _ ((List.Perm.append_left _ ((List.Perm.append_left _ ((List.Perm.append_left _ (List.perm_append_comm)).trans (List.perm_append_comm_assoc _ _ _))).trans (List.perm_append_comm_assoc _ _ _))).trans (List.perm_append_comm_assoc _ _ _))).trans (List.perm_append_comm_assoc _ _ _))).trans (List.perm_append_comm_assoc _ _ _))).trans (List.perm_append_comm_assoc _ _ _))).trans (List.perm_append_comm_assoc _ _ _))).trans ((List.Perm.append_left _ ((List.Perm.append_left _ ((List.Perm.append_left _ ((List.Perm.append_left _ ((List.Perm.append_left _ ((List.Perm.append_left _ ((List.Perm.append_left _ (List.perm_append_comm)).trans (List.perm_append_comm_assoc _ _ _))).trans (List.perm_append_comm_assoc _ _ _))).trans (List.perm_append_comm_assoc _ _ _))).trans (List.perm_append_comm_assoc _ _ _))).trans (List.perm_append_comm_assoc _ _ _))).trans (List.perm_append_comm_assoc _ _ _))).trans (List.perm_append_comm_assoc _ _ _))).trans ((List.Perm.append_left _ ((List.Perm.append_left _ ((List.Perm.append_left _ ((List.Perm.append_left _ ((List.Perm.append_left _ ((List.Perm.append_left _ ((List.Perm.append_left _ (List.perm_append_comm)).trans (List.perm_append_comm_assoc _ _ _))).trans (List.perm_append_comm_assoc _ _ _))).trans (List.perm_append_comm_assoc _ _ _))).trans (List.perm_append_comm_assoc _ _ _))).trans (List.perm_append_comm_assoc _ _ _))).trans (List.perm_append_comm_assoc _ _ _))).trans (List.perm_append_comm_assoc _ _ _))).trans ((List.Perm.append_left _ ((List.Perm.append_left _ ((List.Perm.append_left _ ((List.Perm.append_left _ ((List.Perm.append_left _ ((List.Perm.append_left _ ((List.Perm.append_left _ (List.perm_append_comm)).trans (List.perm_append_comm_assoc _ _ _))).trans (List.perm_append_comm_assoc _ _ _))).trans (List.perm_append_comm_assoc _ _ _))).trans (List.perm_append_comm_assoc _ _ _))).trans (List.perm_append_comm_assoc _ _ _))).trans (List.perm_append_comm_assoc _ _ _))).trans (List.perm_append_comm_assoc _ _ _))).trans ((List.Perm.append_left _ ((List.Perm.append_left _ ((List.Perm.append_left _ ((List.Perm.append_left _ ((List.Perm.append_left _ ((List.Perm.append_left _ ((List.Perm.append_left _ (List.perm_append_comm)).trans (List.perm_append_comm_assoc _ _ _))).trans (List.perm_append_comm_assoc _ _ _))).trans (List.perm_append_comm_assoc _ _ _))).trans (List.perm_append_comm_assoc _ _ _))).trans (List.perm_append_comm_assoc _ _ _))).trans (List.perm_append_comm_assoc _ _ _))).trans (List.perm_append_comm_assoc _ _ _))).trans ((List.Perm.append_left _ ((List.Perm.append_left _ ((List.Perm.append_left _ ((List.Perm.append_left _ ((List.Perm.append_left _ ((List.Perm.append_left _ ((List.Perm.append_left _ (List.perm_append_comm)).trans (List.perm_append_comm_assoc _ _ _))).trans (List.perm_append_comm_assoc _ _ _))).trans (List.perm_append_comm_assoc _ _ _))).trans (List.perm_append_comm_assoc _ _ _))).trans (List.perm_append_comm_assoc _ _ _))).trans (List.perm_append_comm_assoc _ _ _))).trans (List.perm_append_comm_assoc _ _ _))).trans ((List.Perm.append_left _ ((List.Perm.append_left _ ((List.Perm.append_left _ ((List.Perm.append_left _ ((List.Perm.append_left _ ((List.Perm.append_left _ ((List.Perm.append_left _ (List.perm_append_comm)).trans (List.perm_append_comm_assoc _ _ _))).trans (List.perm_append_comm_assoc _ _ _))).trans (List.perm_append_comm_assoc _ _ _))).trans (List.perm_append_comm_assoc _ _ _))).trans (List.perm_append_comm_assoc _ _ _))).trans (List.perm_append_comm_assoc _ _ _))).trans (List.perm_append_comm_assoc _ _ _))) : List.Perm (α := Nat × va_E) (t0 ++ (t1 ++ (t2 ++ (t3 ++ (t4 ++ (t5 ++ (t6 ++ (t7 ++ (t8))))))))) (t0 ++ (t1 ++ (t2 ++ (t3 ++ (t4 ++ (t5 ++ (t6 ++ (t7 ++ (t8)))))))))).trans (List.Perm.of_eq (by first | rfl | simp only [List.append_assoc, List.nil_append, List.append_nil])))
theorem uj_29 (t0 t1 t2 t3 t4 t5 t6 t7 t8 t9 t10 t11 : va_W) : List.Perm (α := Nat × va_E) (t0 ++ (t1 ++ (t2 ++ ((t3 ++ (t4 ++ (t5))) ++ ((t6 ++ (t7 ++ (t8))) ++ (t9 ++ (t10 ++ (t11)))))))) ((t0 ++ (t1 ++ (t2 ++ (t3 ++ (t4 ++ (t5 ++ (t6 ++ (t7 ++ (t8))))))))) ++ (t9 ++ (t10 ++ (t11)))) := (List.Perm.of_eq (show (t0 ++ (t1 ++ (t2 ++ ((t3 ++ (t4 ++ (t5))) ++ ((t6 ++ (t7 ++ (t8))) ++ (t9 ++ (t10 ++ (t11))))))) : va_W) = t0 ++ (t1 ++ (t2 ++ (t3 ++ (t4 ++ (t5 ++ (t6 ++ (t7 ++ (t8 ++ (t9 ++ (t10 ++ (t11))))))))))) from by first | rfl | simp only [List.append_assoc, List.nil_append, List.append_nil])).trans (((((((((((((((List.Perm.append_left _ ((List.Perm.append_left _ ((List.Perm.append_left _ ((List.Perm.append_left _ ((List.Perm.append_left _ ((List.Perm.append_left _ ((List.Perm.append_left _ ((List.Perm.append_left _ ((List.Perm.append_left _ ((List.Perm.append_left _ (List.perm_append_comm)).trans (List.perm_append_comm_assoc _ _ _))).trans (List.perm_append_comm_assoc _ _ _))).trans (List.perm_append_comm_assoc _ _ _))).trans (List.perm_append_comm_assoc _ _ _))).trans (List.perm_append_comm_assoc _ _ _))).trans (List.perm_append_comm_assoc _ _ _))).trans (List.perm_append_comm_assoc _ _ _))).trans (List.perm_append_comm_assoc _ _ _))).trans (List.perm_append_comm_assoc _ _ _))).trans (List.perm_append_comm_assoc _ _ _)).trans ((List.Perm.append_left _ ((List.Perm.append_left _ ((List.Perm.append_left _ ((List.Perm.append_left _ ((List.Perm.append_left _ ((List.Perm.append_left _ ((List.Perm.append_left _ ((List.Perm.append_left _ ((List.Perm.append_left _ ((List.Perm.append_left _ (List.perm_append_comm)).trans (List.perm_append_comm_assoc _ _ _))).trans (List.perm_append_comm_assoc _ _ _))).trans (List.perm_append_comm_assoc _ _ _))).trans (List.perm_append_comm_assoc _ _ _))).trans (List.perm_append_comm_assoc _ _ _))).trans (List.perm_append_comm_assoc _ _ _))).trans (List.perm_append_comm_assoc _ _ _))).trans (List.perm_append_comm_assoc _ _ _))).trans (List.perm_append_comm_assoc _ _ _))).trans (List.perm_append_comm_assoc _ _ _))).trans ((List.Perm.append_left _ ((List.Perm.append_left _ ((List.Perm.append_left _ ((List.Perm.append_left _ ((List.Perm.append_left _ ((List.Perm.append_left _ ((List.Perm.append_left _ ((List.Perm.append_left _ ((List.Perm.append_left _ ((List.Perm.append_left _ (List.perm_append_comm)).trans (List.perm_append_comm_assoc _ _ _))).trans (List.perm_append_comm_assoc _ _ _))).trans (List.perm_append_comm_assoc _ _ _))).trans (List.perm_append_comm_assoc _ _ _))).trans (List.perm_append_comm_assoc _ _ _))).trans (List.perm_append_comm_assoc _ _ _))).trans (List.perm_append_comm_assoc _ _ _))).trans (List.perm_append_comm_assoc _ _ _))).trans (List.perm_append_comm_assoc _ _ _))).trans (List.perm_append_comm_assoc _ _ _))).trans ((List.Perm.append_left _ ((List.Perm.append_left _ ((List.Perm.append_left _ ((List.Perm.append_left _ ((List.Perm.append_left _ ((List.Perm.append_left _ ((List.Perm.append_left _ ((List.Perm.append_left _ ((List.Perm.append_left _ ((List.Perm.append_left _ (List.perm_append_comm)).trans (List.perm_append_comm_assoc _ _ _))).trans (List.perm_append_comm_assoc _ _ _))).trans (List.perm_append_comm_assoc _ _ _))).trans (List.perm_append_comm_assoc _ _ _))).trans (List.perm_append_comm_assoc _ _ _))).trans (List.perm_append_comm_assoc _ _ _))).trans (List.perm_append_comm_assoc _ _ _))).trans (List.perm_append_comm_assoc _ _ _))).trans (List.perm_append_comm_assoc _ _ _))).trans (List.perm_append_comm_assoc _ _ _))).trans ((List.Perm.append_left _ ((List.Perm.append_left _ ((List.Perm.append_left _ ((List.Perm.append_left _ ((List.Perm.append_left _ ((List.Perm.append_left _ ((List.Perm.append_left _ ((List.Perm.append_left _ ((List.Perm.append_left _ ((List.Perm.append_left _ (List.perm_append_comm)).trans (List.perm_append_comm_assoc _ _ _))).trans (List.perm_append_comm_assoc _ _ _))).trans (List.perm_append_comm_assoc _ _ _))).trans (List.perm_append_comm_assoc _ _ _))).trans (List.perm_append_comm_assoc _ _ _))).trans (List.perm_append_comm_assoc _ _ _))).trans (List.perm_append_comm_assoc _ _ _))).trans (List.perm_append_comm_assoc _ _ _))).trans (List.perm_append_comm_assoc _ _ _))).trans (List.perm_append_comm_assoc _ _ _))).trans ((List.Perm.append_left _ ((List.Perm.append_left _ ((List.Perm.append_left _ ((List.Perm.append_left _ ((List.Perm.append_left _ ((List.Perm.append_left _ ((List.Perm.append_left _ ((List.Perm.append_left _ ((List.Perm.append_left _ ((List.Perm.append_left _ (List.perm_append_comm)).trans (List.perm_append_comm_assoc _ _ _))).trans (List.perm_append_comm_assoc _ _ _))).trans (List.perm_append_comm_assoc _ _ _))).trans (List.perm_append_comm_assoc _ _ _))).trans (List.perm_append_comm_assoc _ _ _))).trans (List.perm_append_comm_assoc _ _ _))).trans (List.perm_append_comm_assoc _ _ _))).trans (List.perm_append_comm_assoc _ _ _))).trans (List.perm_append_comm_assoc _ _ _))).trans (List.perm_append_comm_assoc _ _ _))).trans ((List.Perm.append_left _ ((List.Perm.append_left _ ((List.Perm.append_left _ ((List.Perm.append_left _ ((List.Perm.append_left _ ((List.Perm.append_left _ ((List.Perm.append_left _ ((List.Perm.append_left _ ((List.Perm.append_left _ ((List.Perm.append_left _ (List.perm_append_comm)).trans (List.perm_append_comm_assoc _ _ _))).trans (List.perm_append_comm_assoc _ _ _))).trans (List.perm_append_comm_assoc _ _ _))).trans (List.perm_append_comm_assoc _ _ _))).trans (List.perm_append_comm_assoc _ _ _))).trans (List.perm_append_comm_assoc _ _ _))).trans (List.perm_append_comm_assoc _ _ _))).trans (List.perm_append_comm_assoc _ _ _))).trans (List.perm_append_comm_assoc _ _ _))).trans (List.perm_append_comm_assoc _ _ _))).trans ((List.Perm.append_left _ ((List.Perm.append_left _ ((List.Perm.append_left _ ((List.Perm.append_left _ ((List.Perm.append_left _ ((List.Perm.append_left _ ((List.Perm.append_left _ ((List.Perm.append_left _ ((List.Perm.append_left _ ((List.Perm.append_left _ (List.perm_append_comm)).trans (List.perm_append_comm_assoc _ _ _))).trans (List.perm_append_comm_assoc _ _ _))).trans (List.perm_append_comm_assoc _ _ _))).trans (List.perm_append_comm_assoc _ _ _))).trans (List.perm_append_comm_assoc _ _ _))).trans (List.perm_append_comm_assoc _ _ _))).trans (List.perm_append_comm_assoc _ _ _))).trans (List.perm_append_comm_assoc _ _ _))).trans (List.perm_append_comm_assoc _ _ _))).trans (List.perm_append_comm_assoc _ _ _))).trans ((List.Perm.append_left _ ((List.Perm.append_left _ ((List.Perm.append_left _ ((List.Perm.append_left _ ((List.Perm.append_left _ ((List.Perm.append_left _ ((List.Perm.append_left _ ((List.Perm.append_left _ ((List.Perm.append_left _ ((List.Perm.append_left _ (List.perm_append_comm)).trans (List.perm_append_comm_assoc _ _ _))).trans (List.perm_append_comm_assoc _ _ _))).trans (List.perm_append_comm_assoc _ _ _))).trans (List.perm_append_comm_assoc _ _ _))).trans (List.perm_append_comm_assoc _ _ _))).trans (List.perm_append_comm_assoc _ _ _))).trans (List.perm_append_comm_assoc _ _ _))).trans (List.perm_append_comm_assoc _ _ _))).trans (List.perm_append_comm_assoc _ _ _))).trans (List.perm_append_comm_assoc _ _ _))).trans ((List.Perm.append_left _ ((List.Perm.append_left _ ((List.Perm.append_left _ ((List.Perm.append_left _ ((List.Perm.append_left _ ((List.Perm.append_left _ ((List.Perm.append_left _ ((List.Perm.append_left _ ((List.Perm.append_left _ ((List.Perm.append_left _ (List.perm_append_comm)).trans (List.perm_append_comm_assoc _ _ _))).trans (List.perm_append_comm_assoc _ _ _))).trans (List.perm_append_comm_assoc _ _ _))).trans (List.perm_append_comm_assoc _ _ _))).trans (List.perm_append_comm_assoc _ _ _))).trans (List.perm_append_comm_assoc _ _ _))).trans (List.perm_append_comm_assoc _ _ _))).trans (List.perm_append_comm_assoc _ _ _))).trans (List.perm_append_comm_assoc _ _ _))).trans (List.perm_append_comm_assoc _ _ _))).trans ((List.Perm.append_left _ ((List.Perm.append_left _ ((List.Perm.append_left _ ((List.Perm.append_left _ ((List.Perm.append_left _ ((List.Perm.append_left _ ((List.Perm.append_left _ ((List.Perm.append_left _ ((List.Perm.append_left _ ((List.Perm.append_left _ (List.perm_append_comm)).trans (List.perm_append_comm_assoc _ _ _))).trans (List.perm_append_comm_assoc _ _ _))).trans (List.perm_append_comm_assoc _ _ _))).trans (List.perm_append_comm_assoc _ _ _))).trans (List.perm_append_comm_assoc _ _ _))).trans (List.perm_append_comm_assoc _ _ _))).trans (List.perm_append_comm_assoc _ _ _))).trans (List.perm_append_comm_assoc _ _ _))).trans (List.perm_append_comm_assoc _ _ _))).trans (List.perm_append_comm_assoc _ _ _))).trans ((List.Perm.append_left _ ((List.Perm.append_left _ ((List.Perm.append_left _ ((List.Perm.append_left _ ((List.Perm.append_left _ ((List.Perm.append_left _ ((List.Perm.append_left _ ((List.Perm.append_left _ ((List.Perm.append_left _ ((List.Perm.append_left _ (List.perm_append_comm)).trans (List.perm_append_comm_assoc _ _ _))).trans (List.perm_append_comm_assoc _ _ _))).trans (List.perm_append_comm_assoc _ _ _))).trans (List.perm_append_comm_assoc _ _ _))).trans (List.perm_append_comm_assoc _ _ _))).trans (List.perm_append_comm_assoc _ _ _))).trans (List.perm_append_comm_assoc _ _ _))).trans (List.perm_append_comm_assoc _ _ _))).trans (List.perm_append_comm_assoc _ _ _))).trans (List.perm_append_comm_assoc _ _ _))) : List.Perm (α := Nat × va_E) (t0 ++ (t1 ++ (t2 ++ (t3 ++ (t4 ++ (t5 ++ (t6 ++ (t7 ++ (t8 ++ (t9 ++ (t10 ++ (t11)))))))))))) (t0 ++ (t1 ++ (t2 ++ (t3 ++ (t4 ++ (t5 ++ (t6 ++ (t7 ++ (t8 ++ (t9 ++ (t10 ++ (t11))))))))))))).trans (List.Perm.of_eq (by first | rfl | simp only [List.append_assoc, List.nil_append, List.append_nil])))
theorem uj_30 (t0 t1 t2 t3 t4 t5 t6 t7 t8 t9 t10 t11 t12 : va_W) : List.Perm (α := Nat × va_E) (t0 ++ (t1 ++ (t2 ++ ((t3 ++ (t4 ++ (t5))) ++ ((t6 ++ (t7 ++ (t8 ++ (t9)))) ++ (t10 ++ (t11 ++ (t12)))))))) ((t0 ++ (t1 ++ (t2 ++ (t3 ++ (t4 ++ (t5 ++ (t6 ++ (t7 ++ (t8 ++ (t9)))))))))) ++ (t10 ++ (t11 ++ (t12)))) := (List.Perm.of_eq (show (t0 ++ (t1 ++ (t2 ++ ((t3 ++ (t4 ++ (t5))) ++ ((t6 ++ (t7 ++ (t8 ++ (t9)))) ++ (t10 ++ (t11 ++ (t12))))))) : va_W) = t0 ++ (t1 ++ (t2 ++ (t3 ++ (t4 ++ (t5 ++ (t6 ++ (t7 ++ (t8 ++ (t9 ++ (t10 ++ (t11 ++ (t12)))))))))))) from by first | rfl | simp only [List.append_assoc, List.nil_append, List.append_nil])).trans ((((((((((((((((List.Perm.append_left _ ((List.Perm.append_left _ ((List.Perm.append_left _ ((List.Perm.append_left _ ((List.Perm.append_left _ ((List.Perm.append_left _ ((List.Perm.append_left _ ((List.Perm.append_left _ ((List.Perm.append_left _ ((List.Perm.append_left _ ((List.Perm.append_left _ (List.perm_append_comm)).trans (List.perm_append_comm_assoc _ _ _))).trans (List.perm_append_comm_assoc _ _ _))).trans (List.perm_append_comm_assoc _ _ _))).trans (List.perm_append_comm_assoc _ _ _))).trans (List.perm_append_comm_assoc _ _ _))).trans (List.perm_append_comm_assoc _ _ _))).trans (List.perm_append_comm_assoc _ _ _))).trans (List.perm_append_comm_assoc _ _ _))).trans (List.perm_append_comm_assoc _ _ _))).trans (List.perm_append_comm_assoc _ _ _))).trans (List.perm_append_comm_assoc _ _ _)).trans ((List.Perm.append_left _ ((List.Perm.append_left _ ((List.Perm.append_left _ ((List.Perm.append_left _ ((List.Perm.append_left _ ((List.Perm.append_left _ ((List.Perm.append_left _ ((List.Perm.append_left _ ((List.Perm.append_left _ ((List.Perm.append_left _ ((List.Perm.append_left _ (List.perm_append_comm)).trans (List.perm_append_comm_assoc _ _ _))).trans (List.perm_append_comm_assoc _ _ _))).trans (List.perm_append_comm_assoc _ _ _))).trans (List.perm_append_comm_assoc _ _ _))).trans (List.perm_append_comm_assoc _ _ _))).trans (List.perm_append_comm_assoc _ _ _))).trans (List.perm_append_comm_assoc _ _ _))).trans (List.perm_append_comm_assoc _ _ _))).trans (List.perm_append_comm_assoc _ _ _))).trans (List.perm_append_comm_assoc _ _ _))).trans (List.perm_append_comm_assoc _ _ _))).trans ((List.Perm.append_left _ ((List.Perm.append_left _ ((List.Perm.append_left _ ((List.Perm.append_left _ ((List.Perm.append_left _ ((List.Perm.append_left _ ((List.Perm.append_left _ ((List.Perm.append_left _ ((List.Perm.append_left _ ((List.Perm.append_left _ ((List.Perm.append_left _ (List.perm_append_comm)).trans (List.perm_append_comm_assoc _ _ _))).trans (List.perm_append_comm_assoc _ _ _))).trans (List.perm_append_comm_assoc _ _ _))).trans (List.perm_append_comm_assoc _ _ _))).trans (List.perm_append_comm_assoc _ _ _))).trans (List.perm_append_comm_assoc _ _ _))).trans (List.perm_append_comm_assoc _ _ _))).trans (List.perm_append_comm_assoc _ _ _))).trans (List.perm_append_comm_assoc _ _ _))).trans (List.perm_append_comm_assoc _ _ _))).trans (List.perm_append_comm_assoc _ _ _))).trans ((List.Perm.append_left _ ((List.Perm.append_left _ ((List.Perm.append_left _ ((List.Perm.append_left _ ((List.Perm.append_left _ ((List.Perm.append_left _ ((List.Perm.append_left _ ((List.Perm.append_left _ ((List.Perm.append_left _ ((List.Perm.append_left _ ((List.Perm.append_left _ (List.perm_append_comm)).trans (List.perm_append_comm_assoc _ _ _))).trans (List.perm_append_comm_assoc _ _ _))).trans (List.perm_append_comm_assoc _ _ _))).trans (List.perm_append_comm_assoc _ _ _))).trans (List.perm_append_comm_assoc _ _ _))).trans (List.perm_append_comm_assoc _ _ _))).trans (List.perm_append_comm_assoc _ _ _))).trans (List.perm_append_comm_assoc _ _ _))).trans (List.perm_append_comm_assoc _ _ _))).trans (List.perm_append_comm_assoc _ _ _))).trans (List.perm_append_comm_assoc _ _ _))).trans ((List.Perm.append_left _ ((List.Perm.append_left _ ((List.Perm.append_left _ ((List.Perm.append_left _ ((List.Perm.append_left _ ((List.Perm.append_left _ ((List.Perm.append_left _ ((List.Perm.append_left _ ((List.Perm.append_left _ ((List.Perm.append_left _ ((List.Perm.append_left _ (List.perm_append_comm)).trans (List.perm_append_comm_assoc _ _ _))).trans (List.perm_append_comm_assoc _ _ _))).trans (List.perm_append_comm_assoc _ _ _))).trans (List.perm_append_comm_assoc _ _ _))).trans (List.perm_append_comm_assoc _ _ _))).trans (List.perm_append_comm_assoc _ _ _))).trans (List.perm_append_comm_assoc _ _ _))).trans (List.perm_append_comm_assoc _ _ _))).trans (List.perm_append_comm_assoc _ _ _))).trans (List.perm_append_comm_assoc _ _ _))).trans (List.perm_append_comm_assoc _ _ _))).trans ((List.Perm.append_left _ ((List.Perm.append_left _ ((List.Perm.append_left _ ((List.Perm.append_left _ ((List.Perm.append_left _ ((List.Perm.append_left _ ((List.Perm.append_left _ ((List.Perm.append_left _ ((List.Perm.append_left _ ((List.Perm.append_left _ ((List.Perm.append_left _ (List.perm_append_comm)).trans (List.perm_append_comm_assoc _ _ _))).trans (List.perm_append_comm_assoc _ _ _))).trans (List.perm_append_comm_assoc _ _ _))).trans (List.perm_append_comm_assoc _ _ _))).trans (List.perm_append_comm_assoc _ _ _))).trans (List.perm_append_comm_assoc _ _ _))).trans (List.perm_append_comm_assoc _ _ _))).trans (List.perm_append_comm_assoc _ _ _))).trans (List.perm_append_comm_assoc _ _ _))).trans (List.perm_append_comm_assoc _ _ _))).trans (List.perm_append_comm_assoc _ _ _))).trans ((List.Perm.append_left _ ((List.Perm.append_left _ ((List.Perm.append_left _ ((List.Perm.append_left _ ((List.Perm.append_left _ ((List.Perm.append_left _ ((List.Perm.append_left _ ((List.Perm.append_left _ ((List.Perm.append_left _ ((List.Perm.append_left _ ((List.Perm.append_left _ (List.perm_append_comm)).trans (List.perm_append_comm_assoc _ _ _))).trans (List.perm_append_comm_assoc _ _ _))).trans (List.perm_append_comm_assoc _ _ _))).trans (List.perm_append_comm_assoc _ _ _))).trans (List.perm_append_comm_assoc _ _ _))).trans (List.perm_append_comm_assoc _ _ _))).trans (List.perm_append_comm_assoc _ _ _))).trans (List.perm_append_comm_assoc _ _ _))).trans (List.perm_append_comm_assoc _ _ _))).trans (List.perm_append_comm_assoc _ _ _))).trans (List.perm_append_comm_assoc _ _ _))).trans ((List.Perm.append_left _ ((List.Perm.append_left _ ((List.Perm.append_left _ ((List.Perm.append_left _ ((List.Perm.append_left _ ((List.Perm.append_left _ ((List.Perm.append_left _ ((List.Perm.append_left _ ((List.Perm.append_left _ ((List.Perm.append_left _ ((List.Perm.append_left _ (List.perm_append_comm)).trans (List.perm_append_comm_assoc _ _ _))).trans (List.perm_append_comm_assoc _ _ _))).trans (List.perm_append_comm_assoc _ _ _))).trans (List.perm_append_comm_assoc _ _ _))).trans (List.perm_append_comm_assoc _ _ _))).trans (List.perm_append_comm_assoc _ _ _))).trans (List.perm_append_comm_assoc _ _ _))).trans (List.perm_append_comm_assoc _ _ _))).trans (List.perm_append_comm_assoc _ _ _))).trans (List.perm_append_comm_assoc _ _ _))).trans (List.perm_append_comm_assoc _ _ _))).trans ((List.Perm.append_left _ ((List.Perm.append_left _ ((List.Perm.append_left _ ((List.Perm.append_left _ ((List.Perm.append_left _ ((List.Perm.append_left _ ((List.Perm.append_left _ ((List.Perm.append_left _ ((List.Perm.append_left _ ((List.Perm.append_left _ ((List.Perm.append_left _ (List.perm_append_comm)).trans (List.perm_append_comm_assoc _ _ _))).trans (List.perm_append_comm_assoc _ _ _))).trans (List.perm_append_comm_assoc _ _ _))).trans (List.perm_append_comm_assoc _ _ _))).trans (List.perm_append_comm_assoc _ _ _))).trans (List.perm_append_comm_assoc _ _ _))).trans (List.perm_append_comm_assoc _ _ _))).trans (List.perm_append_comm_assoc _ _ _))).trans (List.perm_append_comm_assoc _ _ _))).trans (List.perm_append_comm_assoc _ _ _))).trans (List.perm_append_comm_assoc _ _ _))).trans ((List.Perm.append_left _ ((List.Perm.append_left _ ((List.Perm.append_left _ ((List.Perm.append_left _ ((List.Perm.append_left _ ((List.Perm.append_left _ ((List.Perm.append_left _ ((List.Perm.append_left _ ((List.Perm.append_left _ ((List.Perm.append_left _ ((List.Perm.append_left _ (List.perm_append_comm)).trans (List.perm_append_comm_assoc _ _ _))).trans (List.perm_append_comm_assoc _ _ _))).trans (List.perm_append_comm_assoc _ _ _))).trans (List.perm_append_comm_assoc _ _ _))).trans (List.perm_append_comm_assoc _ _ _))).trans (List.perm_append_comm_assoc _ _ _))).trans (List.perm_append_comm_assoc _ _ _))).trans (List.perm_append_comm_assoc _ _ _))).trans (List.perm_append_comm_assoc _ _ _))).trans (List.perm_append_comm_assoc _ _ _))).trans (List.perm_append_comm_assoc _ _ _))).trans ((List.Perm.append_left _ ((List.Perm.append_left _ ((List.Perm.append_left _ ((List.Perm.append_left _ ((List.Perm.append_left _ ((List.Perm.append_left _ ((List.Perm.append_left _ ((List.Perm.append_left _ ((List.Perm.append_left _ ((List.Perm.append_left _ ((List.Perm.append_left _ (List.perm_append_comm)).trans (List.perm_append_comm_assoc _ _ _))).trans (List.perm_append_comm_assoc _ _ _))).trans (List.perm_append_comm_assoc _ _ _))).trans (List.perm_append_comm_assoc _ _ _))).trans (List.perm_append_comm_assoc _ _ _))).trans (List.perm_append_comm_assoc _ _ _))).trans (List.perm_append_comm_assoc _ _ _))).trans (List.perm_append_comm_assoc _ _ _))).trans (List.perm_append_comm_assoc _ _ _))).trans (List.perm_append_comm_assoc _ _ _))).trans (List.perm_append_comm_assoc _ _ _))).trans ((List.Perm.append_left _ ((List.Perm.append_left _ ((List.Perm.append_left _ ((List.Perm.append_left _ ((List.Perm.append_left _ ((List.Perm.append_left _ ((List.Perm.append_left _ ((List.Perm.append_left _ ((List.Perm.append_left _ ((List.Perm.append_left _ ((List.Perm.append_left _ (List.perm_append_comm)).trans (List.perm_append_comm_assoc _ _ _))).trans (List.perm_append_comm_assoc _ _ _))).trans (List.perm_append_comm_assoc _ _ _))).trans (List.perm_append_comm_assoc _ _ _))).trans (List.perm_append_comm_assoc _ _ _))).trans (List.perm_append_comm_assoc _ _ _))).trans (List.perm_append_comm_assoc _ _ _))).trans (List.perm_append_comm_assoc _ _ _))).trans (List.perm_append_comm_assoc _ _ _))).trans (List.perm_append_comm_assoc _ _ _))).trans (List.perm_append_comm_assoc _ _ _))).trans ((List.Perm.append_left _ ((List.Perm.append_left _ ((List.Perm.append_left _ ((List.Perm.append_left _ ((List.Perm.append_left _ ((List.Perm.append_left _ ((List.Perm.append_left _ ((List.Perm.append_left _ ((List.Perm.append_left _ ((List.Perm.append_left _ ((List.Perm.append_left _ (List.perm_append_comm)).trans (List.perm_append_comm_assoc _ _ _))).trans (List.perm_append_comm_assoc _ _ _))).trans (List.perm_append_comm_assoc _ _ _))).trans (List.perm_append_comm_assoc _ _ _))).trans (List.perm_append_comm_assoc _ _ _))).trans (List.perm_append_comm_assoc _ _ _))).trans (List.perm_append_comm_assoc _ _ _))).trans (List.perm_append_comm_assoc _ _ _))).trans (List.perm_append_comm_assoc _ _ _))).trans (List.perm_append_comm_assoc _ _ _))).trans (List.perm_append_comm_assoc _ _ _))) : List.Perm (α := Nat × va_E) (t0 ++ (t1 ++ (t2 ++ (t3 ++ (t4 ++ (t5 ++ (t6 ++ (t7 ++ (t8 ++ (t9 ++ (t10 ++ (t11 ++ (t12))))))))))))) (t0 ++ (t1 ++ (t2 ++ (t3 ++ (t4 ++ (t5 ++ (t6 ++ (t7 ++ (t8 ++ (t9 ++ (t10 ++ (t11 ++ (t12)))))))))))))).trans (List.Perm.of_eq (by first | rfl | simp only [List.append_assoc, List.nil_append, List.append_nil])))
def wsU_read : List Cond := wsMX11_read_00 ++ (wsMX11_read_10 ++ (wsMX11_read_20 ++ (wsMX11_read_01 ++ (wsMX11_read_11 ++ (wsMX11_read_21)))))
theorem gdwsU_read : wsU_read.all goodWord = true := (gdA gdwsMX11_read_00 (gdA gdwsMX11_read_10 (gdA gdwsMX11_read_20 (gdA gdwsMX11_read_01 (gdA gdwsMX11_read_11 gdwsMX11_read_21)))))
set_option maxHeartbeats 4000000 in
set_option maxRecDepth 100000 in
theorem U_read (l : Launch) (hst : l.stackTraces = false) (dC : Nat → ClassId) (dI : Nat → Nat → Nat) (kX : Nat → ClassId) (kT : Nat → ClassId) (kM : Nat → ClassId) (kV : Nat → ClassId) (kC : Nat → ClassId) (kN : Nat → ClassId) (kJ : Nat → ClassId) (kL : Nat → ClassId) (kF : Nat → ClassId) (kO : Nat → ClassId) (kQ : Nat → ClassId) (kG : Nat → ClassId) (kw : ClassId) (q : Nat) (L : LT) (Fc Fs : Nat) (w : va_W) (hw : ClsI kX kT kM kV kC kN kJ kL kF kO kQ kG kw q L Fc Fs w) (sz : Nat) : vx_Met l yX11_read wsU_read ({ frames := 338, cells := 39027, slots := 608800, locals := 19750 }) (va_Pc [.ref q] (fun U => U.heap.size = sz ∧ va_P (dC, dI) vwCl w U.heap ∧ va_K (dC, dI) vwCl (tX kX ++ (tT kT ++ (tM kM ++ (tV kV ++ (tC kC ++ (tN kN ++ (tJ kJ ++ (tL kL ++ (tF kF ++ (tO kO ++ (tQ kQ ++ (tG kG ++ (tW kw))))))))))))) U ∧ va_D (fun _ => True) w ∧ CE (va_A w sz) U U.heap)) (va_Qi (fun (r : Int32) (u : (LT × Nat × Nat × va_W)) => ClsI kX kT kM kV kC kN kJ kL kF kO kQ kG kw q u.1 u.2.1 u.2.2.1 u.2.2.2 ∧ (u.1 = L)) (fun u t => va_P (dC, dI) vwCl u.2.2.2 t.heap ∧ va_D (va_A w sz) u.2.2.2 ∧ t.heap.size + Fc ≤ sz + u.2.1 + 1000 ∧ nS sz t.heap + Fs ≤ u.2.2.1 + 9000) (va_A w sz)) (vx_X (fun (u : (LT × Nat × Nat × va_W)) => ClsI kX kT kM kV kC kN kJ kL kF kO kQ kG kw q u.1 u.2.1 u.2.2.1 u.2.2.2 ∧ u.1 = L) (fun E u t => (E = "java/lang/IllegalArgumentException") ∧ va_P (dC, dI) vwCl u.2.2.2 t.heap ∧ va_D (va_A w sz) u.2.2.2 ∧ t.heap.size + Fc ≤ sz + u.2.1 + 1000 ∧ nS sz t.heap + Fs ≤ u.2.2.1 + 9000) (va_A w sz)) 39027 608800 (va_A w sz) := by
  refine ClsI_RS (P := fun q L Fc Fs w => vx_Met l yX11_read wsU_read ({ frames := 338, cells := 39027, slots := 608800, locals := 19750 }) (va_Pc [.ref q] (fun U => U.heap.size = sz ∧ va_P (dC, dI) vwCl w U.heap ∧ va_K (dC, dI) vwCl (tX kX ++ (tT kT ++ (tM kM ++ (tV kV ++ (tC kC ++ (tN kN ++ (tJ kJ ++ (tL kL ++ (tF kF ++ (tO kO ++ (tQ kQ ++ (tG kG ++ (tW kw))))))))))))) U ∧ va_D (fun _ => True) w ∧ CE (va_A w sz) U U.heap)) (va_Qi (fun (r : Int32) (u : (LT × Nat × Nat × va_W)) => ClsI kX kT kM kV kC kN kJ kL kF kO kQ kG kw q u.1 u.2.1 u.2.2.1 u.2.2.2 ∧ (u.1 = L)) (fun u t => va_P (dC, dI) vwCl u.2.2.2 t.heap ∧ va_D (va_A w sz) u.2.2.2 ∧ t.heap.size + Fc ≤ sz + u.2.1 + 1000 ∧ nS sz t.heap + Fs ≤ u.2.2.1 + 9000) (va_A w sz)) (vx_X (fun (u : (LT × Nat × Nat × va_W)) => ClsI kX kT kM kV kC kN kJ kL kF kO kQ kG kw q u.1 u.2.1 u.2.2.1 u.2.2.2 ∧ u.1 = L) (fun E u t => (E = "java/lang/IllegalArgumentException") ∧ va_P (dC, dI) vwCl u.2.2.2 t.heap ∧ va_D (va_A w sz) u.2.2.2 ∧ t.heap.size + Fc ≤ sz + u.2.1 + 1000 ∧ nS sz t.heap + Fs ≤ u.2.2.1 + 9000) (va_A w sz)) 39027 608800 (va_A w sz)) (h := hw) ?_ ?_ ?_ ?_ ?_ ?_
  · intro hX aX hT hM fX_ready fX_sheet dX_sheet nX_sheet iX_sheetLength xX_values xX_clauses xX_nets aT fT_tape dT_tape nT_tape iT_length iT_fault iT_place iT_kind iT_at iT_number jT_name iT_next aM iM_stands iM_variables iM_rows iM_goals iM_differents iM_cases fM_from fM_to fM_whole fM_ways iM_plainRows fM_plainRow fM_kept fM_goalOver fM_goalUnder fM_goalMax fM_different wV wC wN nV gV qN qC qV b_fX_sheet b_nX_sheet b_iX_sheetLength b_shl b_fT_tape b_nT_tape b_iT_length b_iT_at b_iT_number b_iT_next b_len b_iM_stands b_iM_variables b_iM_rows b_iM_goals b_iM_differents b_iM_cases b_fM_ways b_iM_plainRows b_fM_plainRow b_pr hVa hCl hNe hgV
    have pm1 := uj_22 (WX hX aX kX hT hM fX_ready fX_sheet dX_sheet nX_sheet iX_sheetLength .null .null .null xX_values xX_clauses xX_nets) (WT hT aT kT fT_tape dT_tape nT_tape iT_length iT_fault iT_place iT_kind iT_at iT_number jT_name iT_next) (WM hM aM kM iM_stands iM_variables iM_rows iM_goals iM_differents iM_cases fM_from fM_to fM_whole fM_ways iM_plainRows fM_plainRow fM_kept fM_goalOver fM_goalUnder fM_goalMax fM_different) (wV) (wC) (wN)
    refine vx_Met.ad (m_X11_read_00 l hst dC dI hX aX kX hT hM fX_ready fX_sheet dX_sheet nX_sheet iX_sheetLength xX_values xX_clauses xX_nets aT kT fT_tape dT_tape nT_tape iT_length iT_fault iT_place iT_kind iT_at iT_number jT_name iT_next aM kM iM_stands iM_variables iM_rows iM_goals iM_differents iM_cases fM_from fM_to fM_whole fM_ways iM_plainRows fM_plainRow fM_kept fM_goalOver fM_goalUnder fM_goalMax fM_different kJ kL kF b_fX_sheet b_nX_sheet b_iX_sheetLength b_shl b_fT_tape b_nT_tape b_iT_length b_iT_at b_iT_number b_iT_next b_len b_iM_stands b_iM_variables b_iM_rows b_iM_goals b_iM_differents b_iM_cases b_fM_ways b_iM_plainRows b_fM_plainRow b_pr sz) (fun _ h9 => List.mem_append_left _ h9) ⟨(Nat.le_of_ble_eq_true rfl), (Nat.le_of_ble_eq_true rfl), (Nat.le_of_ble_eq_true rfl), (Nat.le_of_ble_eq_true rfl)⟩ (Nat.le_of_ble_eq_true rfl) (Nat.le_of_ble_eq_true rfl) (fun a U h9 => ⟨h9.1, h9.2.1, h9.2.2.1.mem (fun q hq => pm1.mem_iff.mpr (List.mem_append_left _ hq)), h9.2.2.2.1.sub [0, 1, 2, 3, 4, 5, 6, 7, 8, 9, 10, 11, 12, 43, 44, 45, 46, 47, 48, 49, 50, 51, 52, 53, 54] rfl, (h9.2.2.2.2.1.perm pm1).left, h9.2.2.2.2.2.narrow (frS pm1)⟩) (fun a st o t h0 hvm hz hn hQ9 => ?_) (fun a E st t h0 hvm hz hn hX9 => ?_) (frS pm1)
    · obtain ⟨⟨r, u, e1, hw9, hB9⟩, hFq⟩ := hQ9
      revert u hw9 hB9
      refine fz_p26 ?_
      intro o9 w9 iT_fault_u iT_place_u iT_kind_u iT_at_u iT_number_u jT_name_u iT_next_u iM_stands_u iM_variables_u iM_rows_u iM_goals_u iM_differents_u iM_cases_u fM_from_u fM_to_u fM_whole_u fM_ways_u iM_plainRows_u fM_plainRow_u fM_kept_u fM_goalOver_u fM_goalUnder_u fM_goalMax_u fM_different_u hw9 hB9
      try dsimp only at hw9 hB9
      revert hw9
      refine fz_a14 ?_
      intro b_iT_at_u b_iT_number_u b_iT_next_u b_iM_stands_u b_iM_variables_u b_iM_rows_u b_iM_goals_u b_iM_differents_u b_iM_cases_u b_fM_ways_u b_iM_plainRows_u b_fM_plainRow_u r_pr hop
      revert hB9
      refine fz_a2 ?_
      intro hP1 hD1
      obtain ⟨_, rfl, hP0, hK0, hD0, hE0⟩ := h0
      have pm2 := uj_23 (WX hX aX kX hT hM fX_ready fX_sheet dX_sheet nX_sheet iX_sheetLength o9 .null .null xX_values xX_clauses xX_nets) (WT hT aT kT fT_tape dT_tape nT_tape iT_length iT_fault_u iT_place_u iT_kind_u iT_at_u iT_number_u jT_name_u iT_next_u) (WM hM aM kM iM_stands_u iM_variables_u iM_rows_u iM_goals_u iM_differents_u iM_cases_u fM_from_u fM_to_u fM_whole_u fM_ways_u iM_plainRows_u fM_plainRow_u fM_kept_u fM_goalOver_u fM_goalUnder_u fM_goalMax_u fM_different_u) (w9) (wV) (wC) (wN)
      obtain ⟨hP9, hD9⟩ := frA pm1 pm2 hP0 hD0 hFq hP1 hD1
      obtain ⟨⟨nF9, nP9, hop⟩, hnn⟩ := hop
      exact ⟨⟨r, ((iT_length.toInt, qN, qC, qV), nX_sheet / 32 + nT_tape / 32 + nF9 / 8 + 2 * nP9 + 24042 * 1 + nV / 4 + 20016 * gV, 2 * nX_sheet + 2 * nT_tape + 2 * nF9 + 4 * nP9 + 449892 * 1 + 2 * nV + 181408 * gV, WX hX aX kX hT hM fX_ready fX_sheet dX_sheet nX_sheet iX_sheetLength o9 .null .null xX_values xX_clauses xX_nets ++ (WT hT aT kT fT_tape dT_tape nT_tape iT_length iT_fault_u iT_place_u iT_kind_u iT_at_u iT_number_u jT_name_u iT_next_u ++ (WM hM aM kM iM_stands_u iM_variables_u iM_rows_u iM_goals_u iM_differents_u iM_cases_u fM_from_u fM_to_u fM_whole_u fM_ways_u iM_plainRows_u fM_plainRow_u fM_kept_u fM_goalOver_u fM_goalUnder_u fM_goalMax_u fM_different_u ++ (w9 ++ (([] : va_W) ++ (wV ++ (wC ++ (wN)))))))), e1, ⟨⟨hX, aX, hT, hM, fX_ready, fX_sheet, dX_sheet, nX_sheet, iX_sheetLength, o9, .null, .null, xX_values, xX_clauses, xX_nets, aT, fT_tape, dT_tape, nT_tape, iT_length, iT_fault_u, iT_place_u, iT_kind_u, iT_at_u, iT_number_u, jT_name_u, iT_next_u, aM, iM_stands_u, iM_variables_u, iM_rows_u, iM_goals_u, iM_differents_u, iM_cases_u, fM_from_u, fM_to_u, fM_whole_u, fM_ways_u, iM_plainRows_u, fM_plainRow_u, fM_kept_u, fM_goalOver_u, fM_goalUnder_u, fM_goalMax_u, fM_different_u, w9, ([]), wV, wC, wN, nF9, nP9, nV, 1, gV, qN, qC, qV, b_fX_sheet, b_nX_sheet, b_iX_sheetLength, b_shl, b_fT_tape, b_nT_tape, b_iT_length, b_iT_at_u, b_iT_number_u, b_iT_next_u, b_len, b_iM_stands_u, b_iM_variables_u, b_iM_rows_u, b_iM_goals_u, b_iM_differents_u, b_iM_cases_u, b_fM_ways_u, b_iM_plainRows_u, b_fM_plainRow_u, r_pr, hop, (Or.inl ⟨Or.inl ⟨rfl, rfl⟩, rfl⟩), hVa, hCl, hNe, (Or.inr ⟨rfl, hnn⟩), hgV, rfl, rfl, rfl, rfl, rfl⟩, (by first | rfl | ((try dsimp only); first | done | assumption | (exact ⟨fun h => ⟨hu1 h, hu2 h⟩, fun h => ⟨hu3 h, hu4 h⟩⟩) | omega | (exact ⟨fun h => ⟨by omega, by omega⟩, fun h => ⟨by omega, by omega⟩⟩)))⟩, hP9, hD9, (by (try dsimp only at hz hn ⊢); omega), (by (try dsimp only at hz hn ⊢); omega)⟩, frF pm1 hFq⟩
    · obtain ⟨u, hw9, hB9, hFq⟩ := hX9
      revert u hw9 hB9
      refine fz_p26 ?_
      intro o9 w9 iT_fault_u iT_place_u iT_kind_u iT_at_u iT_number_u jT_name_u iT_next_u iM_stands_u iM_variables_u iM_rows_u iM_goals_u iM_differents_u iM_cases_u fM_from_u fM_to_u fM_whole_u fM_ways_u iM_plainRows_u fM_plainRow_u fM_kept_u fM_goalOver_u fM_goalUnder_u fM_goalMax_u fM_different_u hw9 hB9
      try dsimp only at hw9 hB9
      revert hw9
      refine fz_a14 ?_
      intro b_iT_at_u b_iT_number_u b_iT_next_u b_iM_stands_u b_iM_variables_u b_iM_rows_u b_iM_goals_u b_iM_differents_u b_iM_cases_u b_fM_ways_u b_iM_plainRows_u b_fM_plainRow_u r_pr hop
      obtain ⟨hEx, ⟨hP1, hD1⟩⟩ := hB9
      obtain ⟨_, rfl, hP0, hK0, hD0, hE0⟩ := h0
      have pm2 := uj_23 (WX hX aX kX hT hM fX_ready fX_sheet dX_sheet nX_sheet iX_sheetLength o9 .null .null xX_values xX_clauses xX_nets) (WT hT aT kT fT_tape dT_tape nT_tape iT_length iT_fault_u iT_place_u iT_kind_u iT_at_u iT_number_u jT_name_u iT_next_u) (WM hM aM kM iM_stands_u iM_variables_u iM_rows_u iM_goals_u iM_differents_u iM_cases_u fM_from_u fM_to_u fM_whole_u fM_ways_u iM_plainRows_u fM_plainRow_u fM_kept_u fM_goalOver_u fM_goalUnder_u fM_goalMax_u fM_different_u) (w9) (wV) (wC) (wN)
      obtain ⟨hP9, hD9⟩ := frA pm1 pm2 hP0 hD0 hFq hP1 hD1
      obtain ⟨⟨nF9, nP9, hop⟩, hnn⟩ := hop
      exact ⟨((iT_length.toInt, qN, qC, qV), nX_sheet / 32 + nT_tape / 32 + nF9 / 8 + 2 * nP9 + 24042 * 1 + nV / 4 + 20016 * gV, 2 * nX_sheet + 2 * nT_tape + 2 * nF9 + 4 * nP9 + 449892 * 1 + 2 * nV + 181408 * gV, WX hX aX kX hT hM fX_ready fX_sheet dX_sheet nX_sheet iX_sheetLength o9 .null .null xX_values xX_clauses xX_nets ++ (WT hT aT kT fT_tape dT_tape nT_tape iT_length iT_fault_u iT_place_u iT_kind_u iT_at_u iT_number_u jT_name_u iT_next_u ++ (WM hM aM kM iM_stands_u iM_variables_u iM_rows_u iM_goals_u iM_differents_u iM_cases_u fM_from_u fM_to_u fM_whole_u fM_ways_u iM_plainRows_u fM_plainRow_u fM_kept_u fM_goalOver_u fM_goalUnder_u fM_goalMax_u fM_different_u ++ (w9 ++ (([] : va_W) ++ (wV ++ (wC ++ (wN)))))))), ⟨⟨hX, aX, hT, hM, fX_ready, fX_sheet, dX_sheet, nX_sheet, iX_sheetLength, o9, .null, .null, xX_values, xX_clauses, xX_nets, aT, fT_tape, dT_tape, nT_tape, iT_length, iT_fault_u, iT_place_u, iT_kind_u, iT_at_u, iT_number_u, jT_name_u, iT_next_u, aM, iM_stands_u, iM_variables_u, iM_rows_u, iM_goals_u, iM_differents_u, iM_cases_u, fM_from_u, fM_to_u, fM_whole_u, fM_ways_u, iM_plainRows_u, fM_plainRow_u, fM_kept_u, fM_goalOver_u, fM_goalUnder_u, fM_goalMax_u, fM_different_u, w9, ([]), wV, wC, wN, nF9, nP9, nV, 1, gV, qN, qC, qV, b_fX_sheet, b_nX_sheet, b_iX_sheetLength, b_shl, b_fT_tape, b_nT_tape, b_iT_length, b_iT_at_u, b_iT_number_u, b_iT_next_u, b_len, b_iM_stands_u, b_iM_variables_u, b_iM_rows_u, b_iM_goals_u, b_iM_differents_u, b_iM_cases_u, b_fM_ways_u, b_iM_plainRows_u, b_fM_plainRow_u, r_pr, hop, (Or.inl ⟨Or.inl ⟨rfl, rfl⟩, rfl⟩), hVa, hCl, hNe, (Or.inr ⟨rfl, hnn⟩), hgV, rfl, rfl, rfl, rfl, rfl⟩, rfl⟩, ⟨(by have h9 := hEx; exact h9), hP9, hD9, (by (try dsimp only at hz hn ⊢); omega), (by (try dsimp only at hz hn ⊢); omega)⟩, frF pm1 hFq⟩
  · intro hX aX hT hM fX_ready fX_sheet dX_sheet nX_sheet iX_sheetLength xX_values xX_clauses xX_nets aT fT_tape dT_tape nT_tape iT_length iT_fault iT_place iT_kind iT_at iT_number jT_name iT_next aM iM_stands iM_variables iM_rows iM_goals iM_differents iM_cases fM_from fM_to fM_whole fM_ways iM_plainRows fM_plainRow fM_kept fM_goalOver fM_goalUnder fM_goalMax fM_different wV wC wN nV gV qN qC qV hO aO hQ hw iO_answered iO_searched iO_searchedRelaxed iO_counted fO_countedCase gO_goalNumber gO_goalScale fO_start fO_column fO_chosen aQ fQ_inside fQ_outside fQ_shut iQ_rows iQ_allRows iQ_columns nW lw wl wb wG b_fX_sheet b_nX_sheet b_iX_sheetLength b_shl b_fT_tape b_nT_tape b_iT_length b_iT_at b_iT_number b_iT_next b_len b_iM_stands b_iM_variables b_iM_rows b_iM_goals b_iM_differents b_iM_cases b_fM_ways b_iM_plainRows b_fM_plainRow b_pr hVa hCl hNe hgV b_iO_answered b_iO_searched b_iO_searchedRelaxed b_iO_counted b_fO_countedCase b_fO_column b_fO_chosen b_iQ_rows b_iQ_allRows b_iQ_columns b_tb b_wl b_wb hn0
    have pm1 := uj_24 (WX hX aX kX hT hM fX_ready fX_sheet dX_sheet nX_sheet iX_sheetLength .null (.ref (hO 0)) .null xX_values xX_clauses xX_nets) (WT hT aT kT fT_tape dT_tape nT_tape iT_length iT_fault iT_place iT_kind iT_at iT_number jT_name iT_next) (WM hM aM kM iM_stands iM_variables iM_rows iM_goals iM_differents iM_cases fM_from fM_to fM_whole fM_ways iM_plainRows fM_plainRow fM_kept fM_goalOver fM_goalUnder fM_goalMax fM_different) (WO hO aO kO hM hQ hw iO_answered iO_searched iO_searchedRelaxed iO_counted fO_countedCase gO_goalNumber gO_goalScale fO_start fO_column fO_chosen) (WQ hQ aQ kQ hw fQ_inside fQ_outside fQ_shut iQ_rows iQ_allRows iQ_columns) (WW nW hw lw kw wl wb wG) (wV) (wC) (wN)
    refine vx_Met.ad (m_X11_read_10 l hst dC dI hX aX kX hT hM fX_ready fX_sheet dX_sheet nX_sheet iX_sheetLength xX_values xX_clauses xX_nets aT kT fT_tape dT_tape nT_tape iT_length iT_fault iT_place iT_kind iT_at iT_number jT_name iT_next aM kM iM_stands iM_variables iM_rows iM_goals iM_differents iM_cases fM_from fM_to fM_whole fM_ways iM_plainRows fM_plainRow fM_kept fM_goalOver fM_goalUnder fM_goalMax fM_different hO aO kO hQ hw iO_answered iO_searched iO_searchedRelaxed iO_counted fO_countedCase gO_goalNumber gO_goalScale fO_start fO_column fO_chosen aQ kQ fQ_inside fQ_outside fQ_shut iQ_rows iQ_allRows iQ_columns nW lw kw wl wb wG kJ kL kF b_fX_sheet b_nX_sheet b_iX_sheetLength b_shl b_fT_tape b_nT_tape b_iT_length b_iT_at b_iT_number b_iT_next b_len b_iM_stands b_iM_variables b_iM_rows b_iM_goals b_iM_differents b_iM_cases b_fM_ways b_iM_plainRows b_fM_plainRow b_pr b_iO_answered b_iO_searched b_iO_searchedRelaxed b_iO_counted b_fO_countedCase b_fO_column b_fO_chosen b_iQ_rows b_iQ_allRows b_iQ_columns b_tb b_wl b_wb (by omega) sz) (fun _ h9 => List.mem_append_right _ (List.mem_append_left _ h9)) ⟨(Nat.le_of_ble_eq_true rfl), (Nat.le_of_ble_eq_true rfl), (Nat.le_of_ble_eq_true rfl), (Nat.le_of_ble_eq_true rfl)⟩ (Nat.le_of_ble_eq_true rfl) (Nat.le_of_ble_eq_true rfl) (fun a U h9 => ⟨h9.1, h9.2.1, h9.2.2.1.mem (fun q hq => pm1.mem_iff.mpr (List.mem_append_left _ hq)), h9.2.2.2.1.sub [0, 1, 2, 3, 4, 5, 6, 7, 8, 9, 10, 11, 12, 55, 56, 57, 58, 59, 60, 61, 62, 63, 64, 65, 66, 67, 68, 74, 43, 44, 45, 46, 47, 48, 49, 50, 51, 52, 53, 54] rfl, (h9.2.2.2.2.1.perm pm1).left, h9.2.2.2.2.2.narrow (frS pm1)⟩) (fun a st o t h0 hvm hz hn hQ9 => ?_) (fun a E st t h0 hvm hz hn hX9 => ?_) (frS pm1)
    · obtain ⟨⟨r, u, e1, hw9, hB9⟩, hFq⟩ := hQ9
      revert u hw9 hB9
      refine fz_p29 ?_
      intro o9 w9 iT_fault_u iT_place_u iT_kind_u iT_at_u iT_number_u jT_name_u iT_next_u iM_stands_u iM_variables_u iM_rows_u iM_goals_u iM_differents_u iM_cases_u fM_from_u fM_to_u fM_whole_u fM_ways_u iM_plainRows_u fM_plainRow_u fM_kept_u fM_goalOver_u fM_goalUnder_u fM_goalMax_u fM_different_u iO_answered_u iO_searched_u iO_counted_u hw9 hB9
      try dsimp only at hw9 hB9
      revert hw9
      refine fz_a17 ?_
      intro b_iT_at_u b_iT_number_u b_iT_next_u b_iM_stands_u b_iM_variables_u b_iM_rows_u b_iM_goals_u b_iM_differents_u b_iM_cases_u b_fM_ways_u b_iM_plainRows_u b_fM_plainRow_u b_iO_answered_u b_iO_searched_u b_iO_counted_u r_pr hop
      revert hB9
      refine fz_a2 ?_
      intro hP1 hD1
      obtain ⟨_, rfl, hP0, hK0, hD0, hE0⟩ := h0
      have pm2 := uj_25 (WX hX aX kX hT hM fX_ready fX_sheet dX_sheet nX_sheet iX_sheetLength o9 (.ref (hO 0)) .null xX_values xX_clauses xX_nets) (WT hT aT kT fT_tape dT_tape nT_tape iT_length iT_fault_u iT_place_u iT_kind_u iT_at_u iT_number_u jT_name_u iT_next_u) (WM hM aM kM iM_stands_u iM_variables_u iM_rows_u iM_goals_u iM_differents_u iM_cases_u fM_from_u fM_to_u fM_whole_u fM_ways_u iM_plainRows_u fM_plainRow_u fM_kept_u fM_goalOver_u fM_goalUnder_u fM_goalMax_u fM_different_u) (w9) (WO hO aO kO hM hQ hw iO_answered_u iO_searched_u iO_searchedRelaxed iO_counted_u fO_countedCase gO_goalNumber gO_goalScale fO_start fO_column fO_chosen) (WQ hQ aQ kQ hw fQ_inside fQ_outside fQ_shut iQ_rows iQ_allRows iQ_columns) (WW nW hw lw kw wl wb wG) (wV) (wC) (wN)
      obtain ⟨hP9, hD9⟩ := frA pm1 pm2 hP0 hD0 hFq hP1 hD1
      obtain ⟨⟨nF9, nP9, hop⟩, hnn⟩ := hop
      exact ⟨⟨r, ((iT_length.toInt, qN, qC, qV), nX_sheet / 32 + nT_tape / 32 + nF9 / 8 + 2 * nP9 + 24042 * 1 + nV / 4 + 20016 * gV, 2 * nX_sheet + 2 * nT_tape + 2 * nF9 + 4 * nP9 + 449892 * 1 + 2 * nV + 181408 * gV, WX hX aX kX hT hM fX_ready fX_sheet dX_sheet nX_sheet iX_sheetLength o9 (.ref (hO 0)) .null xX_values xX_clauses xX_nets ++ (WT hT aT kT fT_tape dT_tape nT_tape iT_length iT_fault_u iT_place_u iT_kind_u iT_at_u iT_number_u jT_name_u iT_next_u ++ (WM hM aM kM iM_stands_u iM_variables_u iM_rows_u iM_goals_u iM_differents_u iM_cases_u fM_from_u fM_to_u fM_whole_u fM_ways_u iM_plainRows_u fM_plainRow_u fM_kept_u fM_goalOver_u fM_goalUnder_u fM_goalMax_u fM_different_u ++ (w9 ++ ((WO hO aO kO hM hQ hw iO_answered_u iO_searched_u iO_searchedRelaxed iO_counted_u fO_countedCase gO_goalNumber gO_goalScale fO_start fO_column fO_chosen ++ (WQ hQ aQ kQ hw fQ_inside fQ_outside fQ_shut iQ_rows iQ_allRows iQ_columns ++ (WW nW hw lw kw wl wb wG))) ++ (wV ++ (wC ++ (wN)))))))), e1, ⟨⟨hX, aX, hT, hM, fX_ready, fX_sheet, dX_sheet, nX_sheet, iX_sheetLength, o9, (.ref (hO 0)), .null, xX_values, xX_clauses, xX_nets, aT, fT_tape, dT_tape, nT_tape, iT_length, iT_fault_u, iT_place_u, iT_kind_u, iT_at_u, iT_number_u, jT_name_u, iT_next_u, aM, iM_stands_u, iM_variables_u, iM_rows_u, iM_goals_u, iM_differents_u, iM_cases_u, fM_from_u, fM_to_u, fM_whole_u, fM_ways_u, iM_plainRows_u, fM_plainRow_u, fM_kept_u, fM_goalOver_u, fM_goalUnder_u, fM_goalMax_u, fM_different_u, w9, (WO hO aO kO hM hQ hw iO_answered_u iO_searched_u iO_searchedRelaxed iO_counted_u fO_countedCase gO_goalNumber gO_goalScale fO_start fO_column fO_chosen ++ (WQ hQ aQ kQ hw fQ_inside fQ_outside fQ_shut iQ_rows iQ_allRows iQ_columns ++ (WW nW hw lw kw wl wb wG))), wV, wC, wN, nF9, nP9, nV, 1, gV, qN, qC, qV, b_fX_sheet, b_nX_sheet, b_iX_sheetLength, b_shl, b_fT_tape, b_nT_tape, b_iT_length, b_iT_at_u, b_iT_number_u, b_iT_next_u, b_len, b_iM_stands_u, b_iM_variables_u, b_iM_rows_u, b_iM_goals_u, b_iM_differents_u, b_iM_cases_u, b_fM_ways_u, b_iM_plainRows_u, b_fM_plainRow_u, r_pr, hop, (Or.inl ⟨Or.inr ⟨hO, aO, hQ, hw, iO_answered_u, iO_searched_u, iO_searchedRelaxed, iO_counted_u, fO_countedCase, gO_goalNumber, gO_goalScale, fO_start, fO_column, fO_chosen, aQ, fQ_inside, fQ_outside, fQ_shut, iQ_rows, iQ_allRows, iQ_columns, nW, lw, wl, wb, wG, b_iO_answered_u, b_iO_searched_u, b_iO_searchedRelaxed, b_iO_counted_u, b_fO_countedCase, b_fO_column, b_fO_chosen, b_iQ_rows, b_iQ_allRows, b_iQ_columns, b_tb, b_wl, b_wb, hn0, rfl, rfl⟩, rfl⟩), hVa, hCl, hNe, (Or.inr ⟨rfl, hnn⟩), hgV, rfl, rfl, rfl, rfl, rfl⟩, (by first | rfl | ((try dsimp only); first | done | assumption | (exact ⟨fun h => ⟨hu1 h, hu2 h⟩, fun h => ⟨hu3 h, hu4 h⟩⟩) | omega | (exact ⟨fun h => ⟨by omega, by omega⟩, fun h => ⟨by omega, by omega⟩⟩)))⟩, hP9, hD9, (by (try dsimp only at hz hn ⊢); omega), (by (try dsimp only at hz hn ⊢); omega)⟩, frF pm1 hFq⟩
    · obtain ⟨u, hw9, hB9, hFq⟩ := hX9
      revert u hw9 hB9
      refine fz_p29 ?_
      intro o9 w9 iT_fault_u iT_place_u iT_kind_u iT_at_u iT_number_u jT_name_u iT_next_u iM_stands_u iM_variables_u iM_rows_u iM_goals_u iM_differents_u iM_cases_u fM_from_u fM_to_u fM_whole_u fM_ways_u iM_plainRows_u fM_plainRow_u fM_kept_u fM_goalOver_u fM_goalUnder_u fM_goalMax_u fM_different_u iO_answered_u iO_searched_u iO_counted_u hw9 hB9
      try dsimp only at hw9 hB9
      revert hw9
      refine fz_a17 ?_
      intro b_iT_at_u b_iT_number_u b_iT_next_u b_iM_stands_u b_iM_variables_u b_iM_rows_u b_iM_goals_u b_iM_differents_u b_iM_cases_u b_fM_ways_u b_iM_plainRows_u b_fM_plainRow_u b_iO_answered_u b_iO_searched_u b_iO_counted_u r_pr hop
      obtain ⟨hEx, ⟨hP1, hD1⟩⟩ := hB9
      obtain ⟨_, rfl, hP0, hK0, hD0, hE0⟩ := h0
      have pm2 := uj_25 (WX hX aX kX hT hM fX_ready fX_sheet dX_sheet nX_sheet iX_sheetLength o9 (.ref (hO 0)) .null xX_values xX_clauses xX_nets) (WT hT aT kT fT_tape dT_tape nT_tape iT_length iT_fault_u iT_place_u iT_kind_u iT_at_u iT_number_u jT_name_u iT_next_u) (WM hM aM kM iM_stands_u iM_variables_u iM_rows_u iM_goals_u iM_differents_u iM_cases_u fM_from_u fM_to_u fM_whole_u fM_ways_u iM_plainRows_u fM_plainRow_u fM_kept_u fM_goalOver_u fM_goalUnder_u fM_goalMax_u fM_different_u) (w9) (WO hO aO kO hM hQ hw iO_answered_u iO_searched_u iO_searchedRelaxed iO_counted_u fO_countedCase gO_goalNumber gO_goalScale fO_start fO_column fO_chosen) (WQ hQ aQ kQ hw fQ_inside fQ_outside fQ_shut iQ_rows iQ_allRows iQ_columns) (WW nW hw lw kw wl wb wG) (wV) (wC) (wN)
      obtain ⟨hP9, hD9⟩ := frA pm1 pm2 hP0 hD0 hFq hP1 hD1
      obtain ⟨⟨nF9, nP9, hop⟩, hnn⟩ := hop
      exact ⟨((iT_length.toInt, qN, qC, qV), nX_sheet / 32 + nT_tape / 32 + nF9 / 8 + 2 * nP9 + 24042 * 1 + nV / 4 + 20016 * gV, 2 * nX_sheet + 2 * nT_tape + 2 * nF9 + 4 * nP9 + 449892 * 1 + 2 * nV + 181408 * gV, WX hX aX kX hT hM fX_ready fX_sheet dX_sheet nX_sheet iX_sheetLength o9 (.ref (hO 0)) .null xX_values xX_clauses xX_nets ++ (WT hT aT kT fT_tape dT_tape nT_tape iT_length iT_fault_u iT_place_u iT_kind_u iT_at_u iT_number_u jT_name_u iT_next_u ++ (WM hM aM kM iM_stands_u iM_variables_u iM_rows_u iM_goals_u iM_differents_u iM_cases_u fM_from_u fM_to_u fM_whole_u fM_ways_u iM_plainRows_u fM_plainRow_u fM_kept_u fM_goalOver_u fM_goalUnder_u fM_goalMax_u fM_different_u ++ (w9 ++ ((WO hO aO kO hM hQ hw iO_answered_u iO_searched_u iO_searchedRelaxed iO_counted_u fO_countedCase gO_goalNumber gO_goalScale fO_start fO_column fO_chosen ++ (WQ hQ aQ kQ hw fQ_inside fQ_outside fQ_shut iQ_rows iQ_allRows iQ_columns ++ (WW nW hw lw kw wl wb wG))) ++ (wV ++ (wC ++ (wN)))))))), ⟨⟨hX, aX, hT, hM, fX_ready, fX_sheet, dX_sheet, nX_sheet, iX_sheetLength, o9, (.ref (hO 0)), .null, xX_values, xX_clauses, xX_nets, aT, fT_tape, dT_tape, nT_tape, iT_length, iT_fault_u, iT_place_u, iT_kind_u, iT_at_u, iT_number_u, jT_name_u, iT_next_u, aM, iM_stands_u, iM_variables_u, iM_rows_u, iM_goals_u, iM_differents_u, iM_cases_u, fM_from_u, fM_to_u, fM_whole_u, fM_ways_u, iM_plainRows_u, fM_plainRow_u, fM_kept_u, fM_goalOver_u, fM_goalUnder_u, fM_goalMax_u, fM_different_u, w9, (WO hO aO kO hM hQ hw iO_answered_u iO_searched_u iO_searchedRelaxed iO_counted_u fO_countedCase gO_goalNumber gO_goalScale fO_start fO_column fO_chosen ++ (WQ hQ aQ kQ hw fQ_inside fQ_outside fQ_shut iQ_rows iQ_allRows iQ_columns ++ (WW nW hw lw kw wl wb wG))), wV, wC, wN, nF9, nP9, nV, 1, gV, qN, qC, qV, b_fX_sheet, b_nX_sheet, b_iX_sheetLength, b_shl, b_fT_tape, b_nT_tape, b_iT_length, b_iT_at_u, b_iT_number_u, b_iT_next_u, b_len, b_iM_stands_u, b_iM_variables_u, b_iM_rows_u, b_iM_goals_u, b_iM_differents_u, b_iM_cases_u, b_fM_ways_u, b_iM_plainRows_u, b_fM_plainRow_u, r_pr, hop, (Or.inl ⟨Or.inr ⟨hO, aO, hQ, hw, iO_answered_u, iO_searched_u, iO_searchedRelaxed, iO_counted_u, fO_countedCase, gO_goalNumber, gO_goalScale, fO_start, fO_column, fO_chosen, aQ, fQ_inside, fQ_outside, fQ_shut, iQ_rows, iQ_allRows, iQ_columns, nW, lw, wl, wb, wG, b_iO_answered_u, b_iO_searched_u, b_iO_searchedRelaxed, b_iO_counted_u, b_fO_countedCase, b_fO_column, b_fO_chosen, b_iQ_rows, b_iQ_allRows, b_iQ_columns, b_tb, b_wl, b_wb, hn0, rfl, rfl⟩, rfl⟩), hVa, hCl, hNe, (Or.inr ⟨rfl, hnn⟩), hgV, rfl, rfl, rfl, rfl, rfl⟩, rfl⟩, ⟨(by have h9 := hEx; exact h9), hP9, hD9, (by (try dsimp only at hz hn ⊢); omega), (by (try dsimp only at hz hn ⊢); omega)⟩, frF pm1 hFq⟩
  · intro hX aX hT hM fX_ready fX_sheet dX_sheet nX_sheet iX_sheetLength xX_values xX_clauses xX_nets aT fT_tape dT_tape nT_tape iT_length iT_fault iT_place iT_kind iT_at iT_number jT_name iT_next aM iM_stands iM_variables iM_rows iM_goals iM_differents iM_cases fM_from fM_to fM_whole fM_ways iM_plainRows fM_plainRow fM_kept fM_goalOver fM_goalUnder fM_goalMax fM_different wV wC wN nV gV qN qC qV hO aO hQ hw iO_answered iO_searched iO_searchedRelaxed iO_counted fO_countedCase gO_goalNumber gO_goalScale fO_start fO_column fO_chosen aQ fQ_inside fQ_outside fQ_shut iQ_rows iQ_allRows iQ_columns hG aG iG_made iG_keptNeeds fG_kept fG_need fG_turn iG_columns nW lw wl wb wG b_fX_sheet b_nX_sheet b_iX_sheetLength b_shl b_fT_tape b_nT_tape b_iT_length b_iT_at b_iT_number b_iT_next b_len b_iM_stands b_iM_variables b_iM_rows b_iM_goals b_iM_differents b_iM_cases b_fM_ways b_iM_plainRows b_fM_plainRow b_pr hVa hCl hNe hgV b_iO_answered b_iO_searched b_iO_searchedRelaxed b_iO_counted b_fO_countedCase b_fO_column b_fO_chosen b_iQ_rows b_iQ_allRows b_iQ_columns b_tb b_iG_made b_fG_need b_iG_columns b_wl b_wb hnW
    have pm1 := uj_26 (WX hX aX kX hT hM fX_ready fX_sheet dX_sheet nX_sheet iX_sheetLength .null (.ref (hO 0)) (.ref (hG 0)) xX_values xX_clauses xX_nets) (WT hT aT kT fT_tape dT_tape nT_tape iT_length iT_fault iT_place iT_kind iT_at iT_number jT_name iT_next) (WM hM aM kM iM_stands iM_variables iM_rows iM_goals iM_differents iM_cases fM_from fM_to fM_whole fM_ways iM_plainRows fM_plainRow fM_kept fM_goalOver fM_goalUnder fM_goalMax fM_different) (WO hO aO kO hM hQ hw iO_answered iO_searched iO_searchedRelaxed iO_counted fO_countedCase gO_goalNumber gO_goalScale fO_start fO_column fO_chosen) (WQ hQ aQ kQ hw fQ_inside fQ_outside fQ_shut iQ_rows iQ_allRows iQ_columns) (WG hG aG kG hM hO hQ hw iG_made iG_keptNeeds fG_kept fG_need fG_turn iG_columns) (WW nW hw lw kw wl wb wG) (wV) (wC) (wN)
    refine vx_Met.ad (m_X11_read_20 l hst dC dI hX aX kX hT hM fX_ready fX_sheet dX_sheet nX_sheet iX_sheetLength xX_values xX_clauses xX_nets aT kT fT_tape dT_tape nT_tape iT_length iT_fault iT_place iT_kind iT_at iT_number jT_name iT_next aM kM iM_stands iM_variables iM_rows iM_goals iM_differents iM_cases fM_from fM_to fM_whole fM_ways iM_plainRows fM_plainRow fM_kept fM_goalOver fM_goalUnder fM_goalMax fM_different hO aO kO hQ hw iO_answered iO_searched iO_searchedRelaxed iO_counted fO_countedCase gO_goalNumber gO_goalScale fO_start fO_column fO_chosen aQ kQ fQ_inside fQ_outside fQ_shut iQ_rows iQ_allRows iQ_columns hG aG kG iG_made iG_keptNeeds fG_kept fG_need fG_turn iG_columns nW lw kw wl wb wG kJ kL kF b_fX_sheet b_nX_sheet b_iX_sheetLength b_shl b_fT_tape b_nT_tape b_iT_length b_iT_at b_iT_number b_iT_next b_len b_iM_stands b_iM_variables b_iM_rows b_iM_goals b_iM_differents b_iM_cases b_fM_ways b_iM_plainRows b_fM_plainRow b_pr b_iO_answered b_iO_searched b_iO_searchedRelaxed b_iO_counted b_fO_countedCase b_fO_column b_fO_chosen b_iQ_rows b_iQ_allRows b_iQ_columns b_tb b_iG_made b_fG_need b_iG_columns b_wl b_wb (by omega) sz) (fun _ h9 => List.mem_append_right _ (List.mem_append_right _ (List.mem_append_left _ h9))) ⟨(Nat.le_of_ble_eq_true rfl), (Nat.le_of_ble_eq_true rfl), (Nat.le_of_ble_eq_true rfl), (Nat.le_of_ble_eq_true rfl)⟩ (Nat.le_of_ble_eq_true rfl) (Nat.le_of_ble_eq_true rfl) (fun a U h9 => ⟨h9.1, h9.2.1, h9.2.2.1.mem (fun q hq => pm1.mem_iff.mpr (List.mem_append_left _ hq)), h9.2.2.2.1.sub [0, 1, 2, 3, 4, 5, 6, 7, 8, 9, 10, 11, 12, 55, 56, 57, 58, 59, 60, 61, 62, 63, 64, 65, 66, 67, 68, 69, 70, 71, 72, 73, 74, 43, 44, 45, 46, 47, 48, 49, 50, 51, 52, 53, 54] rfl, (h9.2.2.2.2.1.perm pm1).left, h9.2.2.2.2.2.narrow (frS pm1)⟩) (fun a st o t h0 hvm hz hn hQ9 => ?_) (fun a E st t h0 hvm hz hn hX9 => ?_) (frS pm1)
    · obtain ⟨⟨r, u, e1, hw9, hB9⟩, hFq⟩ := hQ9
      revert u hw9 hB9
      refine fz_p30 ?_
      intro o9 w9 iT_fault_u iT_place_u iT_kind_u iT_at_u iT_number_u jT_name_u iT_next_u iM_stands_u iM_variables_u iM_rows_u iM_goals_u iM_differents_u iM_cases_u fM_from_u fM_to_u fM_whole_u fM_ways_u iM_plainRows_u fM_plainRow_u fM_kept_u fM_goalOver_u fM_goalUnder_u fM_goalMax_u fM_different_u iO_answered_u iO_searched_u iO_counted_u iG_made_u hw9 hB9
      try dsimp only at hw9 hB9
      revert hw9
      refine fz_a18 ?_
      intro b_iT_at_u b_iT_number_u b_iT_next_u b_iM_stands_u b_iM_variables_u b_iM_rows_u b_iM_goals_u b_iM_differents_u b_iM_cases_u b_fM_ways_u b_iM_plainRows_u b_fM_plainRow_u b_iO_answered_u b_iO_searched_u b_iO_counted_u b_iG_made_u r_pr hop
      revert hB9
      refine fz_a2 ?_
      intro hP1 hD1
      obtain ⟨_, rfl, hP0, hK0, hD0, hE0⟩ := h0
      have pm2 := uj_27 (WX hX aX kX hT hM fX_ready fX_sheet dX_sheet nX_sheet iX_sheetLength o9 (.ref (hO 0)) (.ref (hG 0)) xX_values xX_clauses xX_nets) (WT hT aT kT fT_tape dT_tape nT_tape iT_length iT_fault_u iT_place_u iT_kind_u iT_at_u iT_number_u jT_name_u iT_next_u) (WM hM aM kM iM_stands_u iM_variables_u iM_rows_u iM_goals_u iM_differents_u iM_cases_u fM_from_u fM_to_u fM_whole_u fM_ways_u iM_plainRows_u fM_plainRow_u fM_kept_u fM_goalOver_u fM_goalUnder_u fM_goalMax_u fM_different_u) (w9) (WO hO aO kO hM hQ hw iO_answered_u iO_searched_u iO_searchedRelaxed iO_counted_u fO_countedCase gO_goalNumber gO_goalScale fO_start fO_column fO_chosen) (WQ hQ aQ kQ hw fQ_inside fQ_outside fQ_shut iQ_rows iQ_allRows iQ_columns) (WG hG aG kG hM hO hQ hw iG_made_u iG_keptNeeds fG_kept fG_need fG_turn iG_columns) (WW nW hw lw kw wl wb wG) (wV) (wC) (wN)
      obtain ⟨hP9, hD9⟩ := frA pm1 pm2 hP0 hD0 hFq hP1 hD1
      obtain ⟨⟨nF9, nP9, hop⟩, hnn⟩ := hop
      exact ⟨⟨r, ((iT_length.toInt, qN, qC, qV), nX_sheet / 32 + nT_tape / 32 + nF9 / 8 + 2 * nP9 + 24042 * 1 + nV / 4 + 20016 * gV, 2 * nX_sheet + 2 * nT_tape + 2 * nF9 + 4 * nP9 + 449892 * 1 + 2 * nV + 181408 * gV, WX hX aX kX hT hM fX_ready fX_sheet dX_sheet nX_sheet iX_sheetLength o9 (.ref (hO 0)) (.ref (hG 0)) xX_values xX_clauses xX_nets ++ (WT hT aT kT fT_tape dT_tape nT_tape iT_length iT_fault_u iT_place_u iT_kind_u iT_at_u iT_number_u jT_name_u iT_next_u ++ (WM hM aM kM iM_stands_u iM_variables_u iM_rows_u iM_goals_u iM_differents_u iM_cases_u fM_from_u fM_to_u fM_whole_u fM_ways_u iM_plainRows_u fM_plainRow_u fM_kept_u fM_goalOver_u fM_goalUnder_u fM_goalMax_u fM_different_u ++ (w9 ++ ((WO hO aO kO hM hQ hw iO_answered_u iO_searched_u iO_searchedRelaxed iO_counted_u fO_countedCase gO_goalNumber gO_goalScale fO_start fO_column fO_chosen ++ (WQ hQ aQ kQ hw fQ_inside fQ_outside fQ_shut iQ_rows iQ_allRows iQ_columns ++ (WG hG aG kG hM hO hQ hw iG_made_u iG_keptNeeds fG_kept fG_need fG_turn iG_columns ++ (WW nW hw lw kw wl wb wG)))) ++ (wV ++ (wC ++ (wN)))))))), e1, ⟨⟨hX, aX, hT, hM, fX_ready, fX_sheet, dX_sheet, nX_sheet, iX_sheetLength, o9, (.ref (hO 0)), (.ref (hG 0)), xX_values, xX_clauses, xX_nets, aT, fT_tape, dT_tape, nT_tape, iT_length, iT_fault_u, iT_place_u, iT_kind_u, iT_at_u, iT_number_u, jT_name_u, iT_next_u, aM, iM_stands_u, iM_variables_u, iM_rows_u, iM_goals_u, iM_differents_u, iM_cases_u, fM_from_u, fM_to_u, fM_whole_u, fM_ways_u, iM_plainRows_u, fM_plainRow_u, fM_kept_u, fM_goalOver_u, fM_goalUnder_u, fM_goalMax_u, fM_different_u, w9, (WO hO aO kO hM hQ hw iO_answered_u iO_searched_u iO_searchedRelaxed iO_counted_u fO_countedCase gO_goalNumber gO_goalScale fO_start fO_column fO_chosen ++ (WQ hQ aQ kQ hw fQ_inside fQ_outside fQ_shut iQ_rows iQ_allRows iQ_columns ++ (WG hG aG kG hM hO hQ hw iG_made_u iG_keptNeeds fG_kept fG_need fG_turn iG_columns ++ (WW nW hw lw kw wl wb wG)))), wV, wC, wN, nF9, nP9, nV, 1, gV, qN, qC, qV, b_fX_sheet, b_nX_sheet, b_iX_sheetLength, b_shl, b_fT_tape, b_nT_tape, b_iT_length, b_iT_at_u, b_iT_number_u, b_iT_next_u, b_len, b_iM_stands_u, b_iM_variables_u, b_iM_rows_u, b_iM_goals_u, b_iM_differents_u, b_iM_cases_u, b_fM_ways_u, b_iM_plainRows_u, b_fM_plainRow_u, r_pr, hop, (Or.inr ⟨hO, aO, hQ, hw, iO_answered_u, iO_searched_u, iO_searchedRelaxed, iO_counted_u, fO_countedCase, gO_goalNumber, gO_goalScale, fO_start, fO_column, fO_chosen, aQ, fQ_inside, fQ_outside, fQ_shut, iQ_rows, iQ_allRows, iQ_columns, hG, aG, iG_made_u, iG_keptNeeds, fG_kept, fG_need, fG_turn, iG_columns, nW, lw, wl, wb, wG, b_iO_answered_u, b_iO_searched_u, b_iO_searchedRelaxed, b_iO_counted_u, b_fO_countedCase, b_fO_column, b_fO_chosen, b_iQ_rows, b_iQ_allRows, b_iQ_columns, b_tb, b_iG_made_u, b_fG_need, b_iG_columns, b_wl, b_wb, hnW, rfl, rfl, rfl⟩), hVa, hCl, hNe, (Or.inr ⟨rfl, hnn⟩), hgV, rfl, rfl, rfl, rfl, rfl⟩, (by first | rfl | ((try dsimp only); first | done | assumption | (exact ⟨fun h => ⟨hu1 h, hu2 h⟩, fun h => ⟨hu3 h, hu4 h⟩⟩) | omega | (exact ⟨fun h => ⟨by omega, by omega⟩, fun h => ⟨by omega, by omega⟩⟩)))⟩, hP9, hD9, (by (try dsimp only at hz hn ⊢); omega), (by (try dsimp only at hz hn ⊢); omega)⟩, frF pm1 hFq⟩
    · obtain ⟨u, hw9, hB9, hFq⟩ := hX9
      revert u hw9 hB9
      refine fz_p30 ?_
      intro o9 w9 iT_fault_u iT_place_u iT_kind_u iT_at_u iT_number_u jT_name_u iT_next_u iM_stands_u iM_variables_u iM_rows_u iM_goals_u iM_differents_u iM_cases_u fM_from_u fM_to_u fM_whole_u fM_ways_u iM_plainRows_u fM_plainRow_u fM_kept_u fM_goalOver_u fM_goalUnder_u fM_goalMax_u fM_different_u iO_answered_u iO_searched_u iO_counted_u iG_made_u hw9 hB9
      try dsimp only at hw9 hB9
      revert hw9
      refine fz_a18 ?_
      intro b_iT_at_u b_iT_number_u b_iT_next_u b_iM_stands_u b_iM_variables_u b_iM_rows_u b_iM_goals_u b_iM_differents_u b_iM_cases_u b_fM_ways_u b_iM_plainRows_u b_fM_plainRow_u b_iO_answered_u b_iO_searched_u b_iO_counted_u b_iG_made_u r_pr hop
      obtain ⟨hEx, ⟨hP1, hD1⟩⟩ := hB9
      obtain ⟨_, rfl, hP0, hK0, hD0, hE0⟩ := h0
      have pm2 := uj_27 (WX hX aX kX hT hM fX_ready fX_sheet dX_sheet nX_sheet iX_sheetLength o9 (.ref (hO 0)) (.ref (hG 0)) xX_values xX_clauses xX_nets) (WT hT aT kT fT_tape dT_tape nT_tape iT_length iT_fault_u iT_place_u iT_kind_u iT_at_u iT_number_u jT_name_u iT_next_u) (WM hM aM kM iM_stands_u iM_variables_u iM_rows_u iM_goals_u iM_differents_u iM_cases_u fM_from_u fM_to_u fM_whole_u fM_ways_u iM_plainRows_u fM_plainRow_u fM_kept_u fM_goalOver_u fM_goalUnder_u fM_goalMax_u fM_different_u) (w9) (WO hO aO kO hM hQ hw iO_answered_u iO_searched_u iO_searchedRelaxed iO_counted_u fO_countedCase gO_goalNumber gO_goalScale fO_start fO_column fO_chosen) (WQ hQ aQ kQ hw fQ_inside fQ_outside fQ_shut iQ_rows iQ_allRows iQ_columns) (WG hG aG kG hM hO hQ hw iG_made_u iG_keptNeeds fG_kept fG_need fG_turn iG_columns) (WW nW hw lw kw wl wb wG) (wV) (wC) (wN)
      obtain ⟨hP9, hD9⟩ := frA pm1 pm2 hP0 hD0 hFq hP1 hD1
      obtain ⟨⟨nF9, nP9, hop⟩, hnn⟩ := hop
      exact ⟨((iT_length.toInt, qN, qC, qV), nX_sheet / 32 + nT_tape / 32 + nF9 / 8 + 2 * nP9 + 24042 * 1 + nV / 4 + 20016 * gV, 2 * nX_sheet + 2 * nT_tape + 2 * nF9 + 4 * nP9 + 449892 * 1 + 2 * nV + 181408 * gV, WX hX aX kX hT hM fX_ready fX_sheet dX_sheet nX_sheet iX_sheetLength o9 (.ref (hO 0)) (.ref (hG 0)) xX_values xX_clauses xX_nets ++ (WT hT aT kT fT_tape dT_tape nT_tape iT_length iT_fault_u iT_place_u iT_kind_u iT_at_u iT_number_u jT_name_u iT_next_u ++ (WM hM aM kM iM_stands_u iM_variables_u iM_rows_u iM_goals_u iM_differents_u iM_cases_u fM_from_u fM_to_u fM_whole_u fM_ways_u iM_plainRows_u fM_plainRow_u fM_kept_u fM_goalOver_u fM_goalUnder_u fM_goalMax_u fM_different_u ++ (w9 ++ ((WO hO aO kO hM hQ hw iO_answered_u iO_searched_u iO_searchedRelaxed iO_counted_u fO_countedCase gO_goalNumber gO_goalScale fO_start fO_column fO_chosen ++ (WQ hQ aQ kQ hw fQ_inside fQ_outside fQ_shut iQ_rows iQ_allRows iQ_columns ++ (WG hG aG kG hM hO hQ hw iG_made_u iG_keptNeeds fG_kept fG_need fG_turn iG_columns ++ (WW nW hw lw kw wl wb wG)))) ++ (wV ++ (wC ++ (wN)))))))), ⟨⟨hX, aX, hT, hM, fX_ready, fX_sheet, dX_sheet, nX_sheet, iX_sheetLength, o9, (.ref (hO 0)), (.ref (hG 0)), xX_values, xX_clauses, xX_nets, aT, fT_tape, dT_tape, nT_tape, iT_length, iT_fault_u, iT_place_u, iT_kind_u, iT_at_u, iT_number_u, jT_name_u, iT_next_u, aM, iM_stands_u, iM_variables_u, iM_rows_u, iM_goals_u, iM_differents_u, iM_cases_u, fM_from_u, fM_to_u, fM_whole_u, fM_ways_u, iM_plainRows_u, fM_plainRow_u, fM_kept_u, fM_goalOver_u, fM_goalUnder_u, fM_goalMax_u, fM_different_u, w9, (WO hO aO kO hM hQ hw iO_answered_u iO_searched_u iO_searchedRelaxed iO_counted_u fO_countedCase gO_goalNumber gO_goalScale fO_start fO_column fO_chosen ++ (WQ hQ aQ kQ hw fQ_inside fQ_outside fQ_shut iQ_rows iQ_allRows iQ_columns ++ (WG hG aG kG hM hO hQ hw iG_made_u iG_keptNeeds fG_kept fG_need fG_turn iG_columns ++ (WW nW hw lw kw wl wb wG)))), wV, wC, wN, nF9, nP9, nV, 1, gV, qN, qC, qV, b_fX_sheet, b_nX_sheet, b_iX_sheetLength, b_shl, b_fT_tape, b_nT_tape, b_iT_length, b_iT_at_u, b_iT_number_u, b_iT_next_u, b_len, b_iM_stands_u, b_iM_variables_u, b_iM_rows_u, b_iM_goals_u, b_iM_differents_u, b_iM_cases_u, b_fM_ways_u, b_iM_plainRows_u, b_fM_plainRow_u, r_pr, hop, (Or.inr ⟨hO, aO, hQ, hw, iO_answered_u, iO_searched_u, iO_searchedRelaxed, iO_counted_u, fO_countedCase, gO_goalNumber, gO_goalScale, fO_start, fO_column, fO_chosen, aQ, fQ_inside, fQ_outside, fQ_shut, iQ_rows, iQ_allRows, iQ_columns, hG, aG, iG_made_u, iG_keptNeeds, fG_kept, fG_need, fG_turn, iG_columns, nW, lw, wl, wb, wG, b_iO_answered_u, b_iO_searched_u, b_iO_searchedRelaxed, b_iO_counted_u, b_fO_countedCase, b_fO_column, b_fO_chosen, b_iQ_rows, b_iQ_allRows, b_iQ_columns, b_tb, b_iG_made_u, b_fG_need, b_iG_columns, b_wl, b_wb, hnW, rfl, rfl, rfl⟩), hVa, hCl, hNe, (Or.inr ⟨rfl, hnn⟩), hgV, rfl, rfl, rfl, rfl, rfl⟩, rfl⟩, ⟨(by have h9 := hEx; exact h9), hP9, hD9, (by (try dsimp only at hz hn ⊢); omega), (by (try dsimp only at hz hn ⊢); omega)⟩, frF pm1 hFq⟩
  · intro hX aX hT hM fX_ready fX_sheet dX_sheet nX_sheet iX_sheetLength xX_values xX_clauses xX_nets aT fT_tape dT_tape nT_tape iT_length iT_fault iT_place iT_kind iT_at iT_number jT_name iT_next aM iM_stands iM_variables iM_rows iM_goals iM_differents iM_cases fM_from fM_to fM_whole fM_ways iM_plainRows fM_plainRow fM_kept fM_goalOver fM_goalUnder fM_goalMax fM_different wV wC wN nV gV qN qC qV hJ aJ hL iJ_used iJ_depth jJ_ownName gJ_binder iJ_binders iJ_firstSet iJ_secondSet aL xL_tree iL_names gL_key fL_kind fL_one fL_two fL_base iL_params fL_paramOver dL_paramOver nL_params fL_paramUnder dL_paramUnder nL_pu gL_over gL_under fL_bound iL_nameAt iL_startAt iL_steps jL_scaleOver jL_scaleUnder hF aF dF_tree nF_tree fF_tree b_fX_sheet b_nX_sheet b_iX_sheetLength b_shl b_fT_tape b_nT_tape b_iT_length b_iT_at b_iT_number b_iT_next b_len b_iM_stands b_iM_variables b_iM_rows b_iM_goals b_iM_differents b_iM_cases b_fM_ways b_iM_plainRows b_fM_plainRow b_pr hVa hCl hNe hgV b_iJ_used b_iJ_depth b_iJ_binders b_iJ_firstSet b_iJ_secondSet b_iL_names b_fL_kind b_fL_two b_fL_base b_iL_params b_nL_params b_nm b_pm b_pu b_nF_tree
    have pm1 := uj_28 (WX hX aX kX hT hM fX_ready fX_sheet dX_sheet nX_sheet iX_sheetLength (.ref (hJ 0)) .null .null xX_values xX_clauses xX_nets) (WT hT aT kT fT_tape dT_tape nT_tape iT_length iT_fault iT_place iT_kind iT_at iT_number jT_name iT_next) (WM hM aM kM iM_stands iM_variables iM_rows iM_goals iM_differents iM_cases fM_from fM_to fM_whole fM_ways iM_plainRows fM_plainRow fM_kept fM_goalOver fM_goalUnder fM_goalMax fM_different) (WJ hJ aJ kJ hT hM hL (.ref dF_tree) iJ_used iJ_depth jJ_ownName gJ_binder iJ_binders iJ_firstSet iJ_secondSet) (WL hL aL kL hT hM xL_tree iL_names gL_key fL_kind fL_one fL_two fL_base iL_params fL_paramOver dL_paramOver nL_params fL_paramUnder dL_paramUnder nL_pu gL_over gL_under fL_bound iL_nameAt iL_startAt iL_steps jL_scaleOver jL_scaleUnder) (WF hF aF kF dF_tree nF_tree fF_tree) (wV) (wC) (wN)
    refine vx_Met.ad (m_X11_read_01 l hst dC dI hX aX kX hT hM fX_ready fX_sheet dX_sheet nX_sheet iX_sheetLength xX_values xX_clauses xX_nets aT kT fT_tape dT_tape nT_tape iT_length iT_fault iT_place iT_kind iT_at iT_number jT_name iT_next aM kM iM_stands iM_variables iM_rows iM_goals iM_differents iM_cases fM_from fM_to fM_whole fM_ways iM_plainRows fM_plainRow fM_kept fM_goalOver fM_goalUnder fM_goalMax fM_different hJ aJ kJ hL iJ_used iJ_depth jJ_ownName gJ_binder iJ_binders iJ_firstSet iJ_secondSet aL kL xL_tree iL_names gL_key fL_kind fL_one fL_two fL_base iL_params fL_paramOver dL_paramOver nL_params fL_paramUnder dL_paramUnder nL_pu gL_over gL_under fL_bound iL_nameAt iL_startAt iL_steps jL_scaleOver jL_scaleUnder hF aF kF dF_tree nF_tree fF_tree b_fX_sheet b_nX_sheet b_iX_sheetLength b_shl b_fT_tape b_nT_tape b_iT_length b_iT_at b_iT_number b_iT_next b_len b_iM_stands b_iM_variables b_iM_rows b_iM_goals b_iM_differents b_iM_cases b_fM_ways b_iM_plainRows b_fM_plainRow b_pr b_iJ_used b_iJ_depth b_iJ_binders b_iJ_firstSet b_iJ_secondSet b_iL_names b_fL_kind b_fL_two b_fL_base b_iL_params b_nL_params b_nm b_pm b_pu b_nF_tree sz) (fun _ h9 => List.mem_append_right _ (List.mem_append_right _ (List.mem_append_right _ (List.mem_append_left _ h9)))) ⟨(Nat.le_of_ble_eq_true rfl), (Nat.le_of_ble_eq_true rfl), (Nat.le_of_ble_eq_true rfl), (Nat.le_of_ble_eq_true rfl)⟩ (Nat.le_of_ble_eq_true rfl) (Nat.le_of_ble_eq_true rfl) (fun a U h9 => ⟨h9.1, h9.2.1, h9.2.2.1.mem (fun q hq => pm1.mem_iff.mpr (List.mem_append_left _ hq)), h9.2.2.2.1.sub [0, 1, 2, 3, 4, 5, 6, 7, 8, 9, 10, 11, 12, 43, 44, 45, 46, 47, 48, 49, 50, 51, 52, 53, 54] rfl, (h9.2.2.2.2.1.perm pm1).left, h9.2.2.2.2.2.narrow (frS pm1)⟩) (fun a st o t h0 hvm hz hn hQ9 => ?_) (fun a E st t h0 hvm hz hn hX9 => ?_) (frS pm1)
    · obtain ⟨⟨r, u, e1, hw9, hB9⟩, hFq⟩ := hQ9
      revert u hw9 hB9
      refine fz_p56 ?_
      intro iT_fault_u iT_place_u iT_kind_u iT_at_u iT_number_u jT_name_u iT_next_u iM_stands_u iM_variables_u iM_rows_u iM_goals_u iM_differents_u iM_cases_u fM_from_u fM_to_u fM_whole_u fM_ways_u iM_plainRows_u fM_plainRow_u fM_kept_u fM_goalOver_u fM_goalUnder_u fM_goalMax_u fM_different_u iJ_used_u iJ_depth_u jJ_ownName_u gJ_binder_u iJ_binders_u iJ_firstSet_u iJ_secondSet_u xL_tree_u iL_names_u gL_key_u fL_kind_u fL_one_u fL_two_u fL_base_u iL_params_u fL_paramOver_u dL_paramOver_u nL_params_u fL_paramUnder_u dL_paramUnder_u nL_pu_u gL_over_u gL_under_u fL_bound_u iL_nameAt_u iL_startAt_u iL_steps_u jL_scaleOver_u jL_scaleUnder_u dF_tree_u nF_tree_u fF_tree_u hw9 hB9
      try dsimp only at hw9 hB9
      revert hw9
      refine fz_a30 ?_
      intro b_iT_at_u b_iT_number_u b_iT_next_u b_iM_stands_u b_iM_variables_u b_iM_rows_u b_iM_goals_u b_iM_differents_u b_iM_cases_u b_fM_ways_u b_iM_plainRows_u b_fM_plainRow_u b_iJ_used_u b_iJ_depth_u b_iJ_binders_u b_iJ_firstSet_u b_iJ_secondSet_u b_iL_names_u b_fL_kind_u b_fL_two_u b_fL_base_u b_iL_params_u b_nL_params_u b_nF_tree_u r_pr r_nm r_pm r_pu hu0 hu1
      revert hB9
      refine fz_a4 ?_
      intro hP1 hD1 hg1 hg2
      obtain ⟨_, rfl, hP0, hK0, hD0, hE0⟩ := h0
      have pm2 := uj_28 (WX hX aX kX hT hM fX_ready fX_sheet dX_sheet nX_sheet iX_sheetLength (.ref (hJ 0)) .null .null xX_values xX_clauses xX_nets) (WT hT aT kT fT_tape dT_tape nT_tape iT_length iT_fault_u iT_place_u iT_kind_u iT_at_u iT_number_u jT_name_u iT_next_u) (WM hM aM kM iM_stands_u iM_variables_u iM_rows_u iM_goals_u iM_differents_u iM_cases_u fM_from_u fM_to_u fM_whole_u fM_ways_u iM_plainRows_u fM_plainRow_u fM_kept_u fM_goalOver_u fM_goalUnder_u fM_goalMax_u fM_different_u) (WJ hJ aJ kJ hT hM hL (.ref dF_tree_u) iJ_used_u iJ_depth_u jJ_ownName_u gJ_binder_u iJ_binders_u iJ_firstSet_u iJ_secondSet_u) (WL hL aL kL hT hM xL_tree_u iL_names_u gL_key_u fL_kind_u fL_one_u fL_two_u fL_base_u iL_params_u fL_paramOver_u dL_paramOver_u nL_params_u fL_paramUnder_u dL_paramUnder_u nL_pu_u gL_over_u gL_under_u fL_bound_u iL_nameAt_u iL_startAt_u iL_steps_u jL_scaleOver_u jL_scaleUnder_u) (WF hF aF kF dF_tree_u nF_tree_u fF_tree_u) (wV) (wC) (wN)
      obtain ⟨hP9, hD9⟩ := frA pm1 pm2 hP0 hD0 hFq hP1 hD1
      exact ⟨⟨r, ((iT_length.toInt, qN, qC, qV), nX_sheet / 32 + nT_tape / 32 + nF_tree_u / 8 + 2 * nL_params_u + 24042 * 1 + nV / 4 + 20016 * gV, 2 * nX_sheet + 2 * nT_tape + 2 * nF_tree_u + 4 * nL_params_u + 449892 * 1 + 2 * nV + 181408 * gV, WX hX aX kX hT hM fX_ready fX_sheet dX_sheet nX_sheet iX_sheetLength (.ref (hJ 0)) .null .null xX_values xX_clauses xX_nets ++ (WT hT aT kT fT_tape dT_tape nT_tape iT_length iT_fault_u iT_place_u iT_kind_u iT_at_u iT_number_u jT_name_u iT_next_u ++ (WM hM aM kM iM_stands_u iM_variables_u iM_rows_u iM_goals_u iM_differents_u iM_cases_u fM_from_u fM_to_u fM_whole_u fM_ways_u iM_plainRows_u fM_plainRow_u fM_kept_u fM_goalOver_u fM_goalUnder_u fM_goalMax_u fM_different_u ++ ((WJ hJ aJ kJ hT hM hL (.ref dF_tree_u) iJ_used_u iJ_depth_u jJ_ownName_u gJ_binder_u iJ_binders_u iJ_firstSet_u iJ_secondSet_u ++ (WL hL aL kL hT hM xL_tree_u iL_names_u gL_key_u fL_kind_u fL_one_u fL_two_u fL_base_u iL_params_u fL_paramOver_u dL_paramOver_u nL_params_u fL_paramUnder_u dL_paramUnder_u nL_pu_u gL_over_u gL_under_u fL_bound_u iL_nameAt_u iL_startAt_u iL_steps_u jL_scaleOver_u jL_scaleUnder_u ++ (WF hF aF kF dF_tree_u nF_tree_u fF_tree_u))) ++ (([] : va_W) ++ (wV ++ (wC ++ (wN)))))))), e1, ⟨⟨hX, aX, hT, hM, fX_ready, fX_sheet, dX_sheet, nX_sheet, iX_sheetLength, (.ref (hJ 0)), .null, .null, xX_values, xX_clauses, xX_nets, aT, fT_tape, dT_tape, nT_tape, iT_length, iT_fault_u, iT_place_u, iT_kind_u, iT_at_u, iT_number_u, jT_name_u, iT_next_u, aM, iM_stands_u, iM_variables_u, iM_rows_u, iM_goals_u, iM_differents_u, iM_cases_u, fM_from_u, fM_to_u, fM_whole_u, fM_ways_u, iM_plainRows_u, fM_plainRow_u, fM_kept_u, fM_goalOver_u, fM_goalUnder_u, fM_goalMax_u, fM_different_u, (WJ hJ aJ kJ hT hM hL (.ref dF_tree_u) iJ_used_u iJ_depth_u jJ_ownName_u gJ_binder_u iJ_binders_u iJ_firstSet_u iJ_secondSet_u ++ (WL hL aL kL hT hM xL_tree_u iL_names_u gL_key_u fL_kind_u fL_one_u fL_two_u fL_base_u iL_params_u fL_paramOver_u dL_paramOver_u nL_params_u fL_paramUnder_u dL_paramUnder_u nL_pu_u gL_over_u gL_under_u fL_bound_u iL_nameAt_u iL_startAt_u iL_steps_u jL_scaleOver_u jL_scaleUnder_u ++ (WF hF aF kF dF_tree_u nF_tree_u fF_tree_u))), ([]), wV, wC, wN, nF_tree_u, nL_params_u, nV, 1, gV, qN, qC, qV, b_fX_sheet, b_nX_sheet, b_iX_sheetLength, b_shl, b_fT_tape, b_nT_tape, b_iT_length, b_iT_at_u, b_iT_number_u, b_iT_next_u, b_len, b_iM_stands_u, b_iM_variables_u, b_iM_rows_u, b_iM_goals_u, b_iM_differents_u, b_iM_cases_u, b_fM_ways_u, b_iM_plainRows_u, b_fM_plainRow_u, r_pr, (Or.inr ⟨hJ, aJ, hL, iJ_used_u, iJ_depth_u, jJ_ownName_u, gJ_binder_u, iJ_binders_u, iJ_firstSet_u, iJ_secondSet_u, aL, xL_tree_u, iL_names_u, gL_key_u, fL_kind_u, fL_one_u, fL_two_u, fL_base_u, iL_params_u, fL_paramOver_u, dL_paramOver_u, fL_paramUnder_u, dL_paramUnder_u, nL_pu_u, gL_over_u, gL_under_u, fL_bound_u, iL_nameAt_u, iL_startAt_u, iL_steps_u, jL_scaleOver_u, jL_scaleUnder_u, hF, aF, dF_tree_u, fF_tree_u, b_iJ_used_u, b_iJ_depth_u, b_iJ_binders_u, b_iJ_firstSet_u, b_iJ_secondSet_u, b_iL_names_u, b_fL_kind_u, b_fL_two_u, b_fL_base_u, b_iL_params_u, b_nL_params_u, r_nm, r_pm, r_pu, b_nF_tree_u, rfl, rfl⟩), (Or.inl ⟨Or.inl ⟨rfl, rfl⟩, rfl⟩), hVa, hCl, hNe, (Or.inr ⟨rfl, fun h => by cases h⟩), hgV, rfl, rfl, rfl, rfl, rfl⟩, (by first | rfl | ((try dsimp only); first | done | assumption | (exact ⟨fun h => ⟨hu1 h, hu2 h⟩, fun h => ⟨hu3 h, hu4 h⟩⟩) | omega | (exact ⟨fun h => ⟨by omega, by omega⟩, fun h => ⟨by omega, by omega⟩⟩)))⟩, hP9, hD9, (by (try dsimp only at hz hn ⊢); omega), (by (try dsimp only at hz hn ⊢); omega)⟩, frF pm1 hFq⟩
    · obtain ⟨u, hw9, hB9, hFq⟩ := hX9
      revert u hw9 hB9
      refine fz_p56 ?_
      intro iT_fault_u iT_place_u iT_kind_u iT_at_u iT_number_u jT_name_u iT_next_u iM_stands_u iM_variables_u iM_rows_u iM_goals_u iM_differents_u iM_cases_u fM_from_u fM_to_u fM_whole_u fM_ways_u iM_plainRows_u fM_plainRow_u fM_kept_u fM_goalOver_u fM_goalUnder_u fM_goalMax_u fM_different_u iJ_used_u iJ_depth_u jJ_ownName_u gJ_binder_u iJ_binders_u iJ_firstSet_u iJ_secondSet_u xL_tree_u iL_names_u gL_key_u fL_kind_u fL_one_u fL_two_u fL_base_u iL_params_u fL_paramOver_u dL_paramOver_u nL_params_u fL_paramUnder_u dL_paramUnder_u nL_pu_u gL_over_u gL_under_u fL_bound_u iL_nameAt_u iL_startAt_u iL_steps_u jL_scaleOver_u jL_scaleUnder_u dF_tree_u nF_tree_u fF_tree_u hw9 hB9
      try dsimp only at hw9 hB9
      revert hw9
      refine fz_a28 ?_
      intro b_iT_at_u b_iT_number_u b_iT_next_u b_iM_stands_u b_iM_variables_u b_iM_rows_u b_iM_goals_u b_iM_differents_u b_iM_cases_u b_fM_ways_u b_iM_plainRows_u b_fM_plainRow_u b_iJ_used_u b_iJ_depth_u b_iJ_binders_u b_iJ_firstSet_u b_iJ_secondSet_u b_iL_names_u b_fL_kind_u b_fL_two_u b_fL_base_u b_iL_params_u b_nL_params_u b_nF_tree_u r_pr r_nm r_pm r_pu
      obtain ⟨hEx, ⟨hP1, hD1, hg1, hg2⟩⟩ := hB9
      obtain ⟨_, rfl, hP0, hK0, hD0, hE0⟩ := h0
      have pm2 := uj_28 (WX hX aX kX hT hM fX_ready fX_sheet dX_sheet nX_sheet iX_sheetLength (.ref (hJ 0)) .null .null xX_values xX_clauses xX_nets) (WT hT aT kT fT_tape dT_tape nT_tape iT_length iT_fault_u iT_place_u iT_kind_u iT_at_u iT_number_u jT_name_u iT_next_u) (WM hM aM kM iM_stands_u iM_variables_u iM_rows_u iM_goals_u iM_differents_u iM_cases_u fM_from_u fM_to_u fM_whole_u fM_ways_u iM_plainRows_u fM_plainRow_u fM_kept_u fM_goalOver_u fM_goalUnder_u fM_goalMax_u fM_different_u) (WJ hJ aJ kJ hT hM hL (.ref dF_tree_u) iJ_used_u iJ_depth_u jJ_ownName_u gJ_binder_u iJ_binders_u iJ_firstSet_u iJ_secondSet_u) (WL hL aL kL hT hM xL_tree_u iL_names_u gL_key_u fL_kind_u fL_one_u fL_two_u fL_base_u iL_params_u fL_paramOver_u dL_paramOver_u nL_params_u fL_paramUnder_u dL_paramUnder_u nL_pu_u gL_over_u gL_under_u fL_bound_u iL_nameAt_u iL_startAt_u iL_steps_u jL_scaleOver_u jL_scaleUnder_u) (WF hF aF kF dF_tree_u nF_tree_u fF_tree_u) (wV) (wC) (wN)
      obtain ⟨hP9, hD9⟩ := frA pm1 pm2 hP0 hD0 hFq hP1 hD1
      exact ⟨((iT_length.toInt, qN, qC, qV), nX_sheet / 32 + nT_tape / 32 + nF_tree_u / 8 + 2 * nL_params_u + 24042 * 1 + nV / 4 + 20016 * gV, 2 * nX_sheet + 2 * nT_tape + 2 * nF_tree_u + 4 * nL_params_u + 449892 * 1 + 2 * nV + 181408 * gV, WX hX aX kX hT hM fX_ready fX_sheet dX_sheet nX_sheet iX_sheetLength (.ref (hJ 0)) .null .null xX_values xX_clauses xX_nets ++ (WT hT aT kT fT_tape dT_tape nT_tape iT_length iT_fault_u iT_place_u iT_kind_u iT_at_u iT_number_u jT_name_u iT_next_u ++ (WM hM aM kM iM_stands_u iM_variables_u iM_rows_u iM_goals_u iM_differents_u iM_cases_u fM_from_u fM_to_u fM_whole_u fM_ways_u iM_plainRows_u fM_plainRow_u fM_kept_u fM_goalOver_u fM_goalUnder_u fM_goalMax_u fM_different_u ++ ((WJ hJ aJ kJ hT hM hL (.ref dF_tree_u) iJ_used_u iJ_depth_u jJ_ownName_u gJ_binder_u iJ_binders_u iJ_firstSet_u iJ_secondSet_u ++ (WL hL aL kL hT hM xL_tree_u iL_names_u gL_key_u fL_kind_u fL_one_u fL_two_u fL_base_u iL_params_u fL_paramOver_u dL_paramOver_u nL_params_u fL_paramUnder_u dL_paramUnder_u nL_pu_u gL_over_u gL_under_u fL_bound_u iL_nameAt_u iL_startAt_u iL_steps_u jL_scaleOver_u jL_scaleUnder_u ++ (WF hF aF kF dF_tree_u nF_tree_u fF_tree_u))) ++ (([] : va_W) ++ (wV ++ (wC ++ (wN)))))))), ⟨⟨hX, aX, hT, hM, fX_ready, fX_sheet, dX_sheet, nX_sheet, iX_sheetLength, (.ref (hJ 0)), .null, .null, xX_values, xX_clauses, xX_nets, aT, fT_tape, dT_tape, nT_tape, iT_length, iT_fault_u, iT_place_u, iT_kind_u, iT_at_u, iT_number_u, jT_name_u, iT_next_u, aM, iM_stands_u, iM_variables_u, iM_rows_u, iM_goals_u, iM_differents_u, iM_cases_u, fM_from_u, fM_to_u, fM_whole_u, fM_ways_u, iM_plainRows_u, fM_plainRow_u, fM_kept_u, fM_goalOver_u, fM_goalUnder_u, fM_goalMax_u, fM_different_u, (WJ hJ aJ kJ hT hM hL (.ref dF_tree_u) iJ_used_u iJ_depth_u jJ_ownName_u gJ_binder_u iJ_binders_u iJ_firstSet_u iJ_secondSet_u ++ (WL hL aL kL hT hM xL_tree_u iL_names_u gL_key_u fL_kind_u fL_one_u fL_two_u fL_base_u iL_params_u fL_paramOver_u dL_paramOver_u nL_params_u fL_paramUnder_u dL_paramUnder_u nL_pu_u gL_over_u gL_under_u fL_bound_u iL_nameAt_u iL_startAt_u iL_steps_u jL_scaleOver_u jL_scaleUnder_u ++ (WF hF aF kF dF_tree_u nF_tree_u fF_tree_u))), ([]), wV, wC, wN, nF_tree_u, nL_params_u, nV, 1, gV, qN, qC, qV, b_fX_sheet, b_nX_sheet, b_iX_sheetLength, b_shl, b_fT_tape, b_nT_tape, b_iT_length, b_iT_at_u, b_iT_number_u, b_iT_next_u, b_len, b_iM_stands_u, b_iM_variables_u, b_iM_rows_u, b_iM_goals_u, b_iM_differents_u, b_iM_cases_u, b_fM_ways_u, b_iM_plainRows_u, b_fM_plainRow_u, r_pr, (Or.inr ⟨hJ, aJ, hL, iJ_used_u, iJ_depth_u, jJ_ownName_u, gJ_binder_u, iJ_binders_u, iJ_firstSet_u, iJ_secondSet_u, aL, xL_tree_u, iL_names_u, gL_key_u, fL_kind_u, fL_one_u, fL_two_u, fL_base_u, iL_params_u, fL_paramOver_u, dL_paramOver_u, fL_paramUnder_u, dL_paramUnder_u, nL_pu_u, gL_over_u, gL_under_u, fL_bound_u, iL_nameAt_u, iL_startAt_u, iL_steps_u, jL_scaleOver_u, jL_scaleUnder_u, hF, aF, dF_tree_u, fF_tree_u, b_iJ_used_u, b_iJ_depth_u, b_iJ_binders_u, b_iJ_firstSet_u, b_iJ_secondSet_u, b_iL_names_u, b_fL_kind_u, b_fL_two_u, b_fL_base_u, b_iL_params_u, b_nL_params_u, r_nm, r_pm, r_pu, b_nF_tree_u, rfl, rfl⟩), (Or.inl ⟨Or.inl ⟨rfl, rfl⟩, rfl⟩), hVa, hCl, hNe, (Or.inr ⟨rfl, fun h => by cases h⟩), hgV, rfl, rfl, rfl, rfl, rfl⟩, rfl⟩, ⟨(by have h9 := hEx; exact h9), hP9, hD9, (by (try dsimp only at hz hn ⊢); omega), (by (try dsimp only at hz hn ⊢); omega)⟩, frF pm1 hFq⟩
  · intro hX aX hT hM fX_ready fX_sheet dX_sheet nX_sheet iX_sheetLength xX_values xX_clauses xX_nets aT fT_tape dT_tape nT_tape iT_length iT_fault iT_place iT_kind iT_at iT_number jT_name iT_next aM iM_stands iM_variables iM_rows iM_goals iM_differents iM_cases fM_from fM_to fM_whole fM_ways iM_plainRows fM_plainRow fM_kept fM_goalOver fM_goalUnder fM_goalMax fM_different wV wC wN nV gV qN qC qV hJ aJ hL iJ_used iJ_depth jJ_ownName gJ_binder iJ_binders iJ_firstSet iJ_secondSet aL xL_tree iL_names gL_key fL_kind fL_one fL_two fL_base iL_params fL_paramOver dL_paramOver nL_params fL_paramUnder dL_paramUnder nL_pu gL_over gL_under fL_bound iL_nameAt iL_startAt iL_steps jL_scaleOver jL_scaleUnder hF aF dF_tree nF_tree fF_tree hO aO hQ hw iO_answered iO_searched iO_searchedRelaxed iO_counted fO_countedCase gO_goalNumber gO_goalScale fO_start fO_column fO_chosen aQ fQ_inside fQ_outside fQ_shut iQ_rows iQ_allRows iQ_columns nW lw wl wb wG b_fX_sheet b_nX_sheet b_iX_sheetLength b_shl b_fT_tape b_nT_tape b_iT_length b_iT_at b_iT_number b_iT_next b_len b_iM_stands b_iM_variables b_iM_rows b_iM_goals b_iM_differents b_iM_cases b_fM_ways b_iM_plainRows b_fM_plainRow b_pr hVa hCl hNe hgV b_iJ_used b_iJ_depth b_iJ_binders b_iJ_firstSet b_iJ_secondSet b_iL_names b_fL_kind b_fL_two b_fL_base b_iL_params b_nL_params b_nm b_pm b_pu b_nF_tree b_iO_answered b_iO_searched b_iO_searchedRelaxed b_iO_counted b_fO_countedCase b_fO_column b_fO_chosen b_iQ_rows b_iQ_allRows b_iQ_columns b_tb b_wl b_wb hn0
    have pm1 := uj_29 (WX hX aX kX hT hM fX_ready fX_sheet dX_sheet nX_sheet iX_sheetLength (.ref (hJ 0)) (.ref (hO 0)) .null xX_values xX_clauses xX_nets) (WT hT aT kT fT_tape dT_tape nT_tape iT_length iT_fault iT_place iT_kind iT_at iT_number jT_name iT_next) (WM hM aM kM iM_stands iM_variables iM_rows iM_goals iM_differents iM_cases fM_from fM_to fM_whole fM_ways iM_plainRows fM_plainRow fM_kept fM_goalOver fM_goalUnder fM_goalMax fM_different) (WJ hJ aJ kJ hT hM hL (.ref dF_tree) iJ_used iJ_depth jJ_ownName gJ_binder iJ_binders iJ_firstSet iJ_secondSet) (WL hL aL kL hT hM xL_tree iL_names gL_key fL_kind fL_one fL_two fL_base iL_params fL_paramOver dL_paramOver nL_params fL_paramUnder dL_paramUnder nL_pu gL_over gL_under fL_bound iL_nameAt iL_startAt iL_steps jL_scaleOver jL_scaleUnder) (WF hF aF kF dF_tree nF_tree fF_tree) (WO hO aO kO hM hQ hw iO_answered iO_searched iO_searchedRelaxed iO_counted fO_countedCase gO_goalNumber gO_goalScale fO_start fO_column fO_chosen) (WQ hQ aQ kQ hw fQ_inside fQ_outside fQ_shut iQ_rows iQ_allRows iQ_columns) (WW nW hw lw kw wl wb wG) (wV) (wC) (wN)
    refine vx_Met.ad (m_X11_read_11 l hst dC dI hX aX kX hT hM fX_ready fX_sheet dX_sheet nX_sheet iX_sheetLength xX_values xX_clauses xX_nets aT kT fT_tape dT_tape nT_tape iT_length iT_fault iT_place iT_kind iT_at iT_number jT_name iT_next aM kM iM_stands iM_variables iM_rows iM_goals iM_differents iM_cases fM_from fM_to fM_whole fM_ways iM_plainRows fM_plainRow fM_kept fM_goalOver fM_goalUnder fM_goalMax fM_different hJ aJ kJ hL iJ_used iJ_depth jJ_ownName gJ_binder iJ_binders iJ_firstSet iJ_secondSet aL kL xL_tree iL_names gL_key fL_kind fL_one fL_two fL_base iL_params fL_paramOver dL_paramOver nL_params fL_paramUnder dL_paramUnder nL_pu gL_over gL_under fL_bound iL_nameAt iL_startAt iL_steps jL_scaleOver jL_scaleUnder hF aF kF dF_tree nF_tree fF_tree hO aO kO hQ hw iO_answered iO_searched iO_searchedRelaxed iO_counted fO_countedCase gO_goalNumber gO_goalScale fO_start fO_column fO_chosen aQ kQ fQ_inside fQ_outside fQ_shut iQ_rows iQ_allRows iQ_columns nW lw kw wl wb wG b_fX_sheet b_nX_sheet b_iX_sheetLength b_shl b_fT_tape b_nT_tape b_iT_length b_iT_at b_iT_number b_iT_next b_len b_iM_stands b_iM_variables b_iM_rows b_iM_goals b_iM_differents b_iM_cases b_fM_ways b_iM_plainRows b_fM_plainRow b_pr b_iJ_used b_iJ_depth b_iJ_binders b_iJ_firstSet b_iJ_secondSet b_iL_names b_fL_kind b_fL_two b_fL_base b_iL_params b_nL_params b_nm b_pm b_pu b_nF_tree b_iO_answered b_iO_searched b_iO_searchedRelaxed b_iO_counted b_fO_countedCase b_fO_column b_fO_chosen b_iQ_rows b_iQ_allRows b_iQ_columns b_tb b_wl b_wb (by omega) sz) (fun _ h9 => List.mem_append_right _ (List.mem_append_right _ (List.mem_append_right _ (List.mem_append_right _ (List.mem_append_left _ h9))))) ⟨(Nat.le_of_ble_eq_true rfl), (Nat.le_of_ble_eq_true rfl), (Nat.le_of_ble_eq_true rfl), (Nat.le_of_ble_eq_true rfl)⟩ (Nat.le_of_ble_eq_true rfl) (Nat.le_of_ble_eq_true rfl) (fun a U h9 => ⟨h9.1, h9.2.1, h9.2.2.1.mem (fun q hq => pm1.mem_iff.mpr (List.mem_append_left _ hq)), h9.2.2.2.1.sub [0, 1, 2, 3, 4, 5, 6, 7, 8, 9, 10, 11, 12, 43, 44, 45, 46, 47, 48, 49, 50, 51, 52, 53, 54, 55, 56, 57, 58, 59, 60, 61, 62, 63, 64, 65, 66, 67, 68, 74] rfl, (h9.2.2.2.2.1.perm pm1).left, h9.2.2.2.2.2.narrow (frS pm1)⟩) (fun a st o t h0 hvm hz hn hQ9 => ?_) (fun a E st t h0 hvm hz hn hX9 => ?_) (frS pm1)
    · obtain ⟨⟨r, u, e1, hw9, hB9⟩, hFq⟩ := hQ9
      revert u hw9 hB9
      refine fz_p59 ?_
      intro iT_fault_u iT_place_u iT_kind_u iT_at_u iT_number_u jT_name_u iT_next_u iM_stands_u iM_variables_u iM_rows_u iM_goals_u iM_differents_u iM_cases_u fM_from_u fM_to_u fM_whole_u fM_ways_u iM_plainRows_u fM_plainRow_u fM_kept_u fM_goalOver_u fM_goalUnder_u fM_goalMax_u fM_different_u iJ_used_u iJ_depth_u jJ_ownName_u gJ_binder_u iJ_binders_u iJ_firstSet_u iJ_secondSet_u xL_tree_u iL_names_u gL_key_u fL_kind_u fL_one_u fL_two_u fL_base_u iL_params_u fL_paramOver_u dL_paramOver_u nL_params_u fL_paramUnder_u dL_paramUnder_u nL_pu_u gL_over_u gL_under_u fL_bound_u iL_nameAt_u iL_startAt_u iL_steps_u jL_scaleOver_u jL_scaleUnder_u dF_tree_u nF_tree_u fF_tree_u iO_answered_u iO_searched_u iO_counted_u hw9 hB9
      try dsimp only at hw9 hB9
      revert hw9
      refine fz_a33 ?_
      intro b_iT_at_u b_iT_number_u b_iT_next_u b_iM_stands_u b_iM_variables_u b_iM_rows_u b_iM_goals_u b_iM_differents_u b_iM_cases_u b_fM_ways_u b_iM_plainRows_u b_fM_plainRow_u b_iJ_used_u b_iJ_depth_u b_iJ_binders_u b_iJ_firstSet_u b_iJ_secondSet_u b_iL_names_u b_fL_kind_u b_fL_two_u b_fL_base_u b_iL_params_u b_nL_params_u b_nF_tree_u b_iO_answered_u b_iO_searched_u b_iO_counted_u r_pr r_nm r_pm r_pu hu0 hu1
      revert hB9
      refine fz_a4 ?_
      intro hP1 hD1 hg1 hg2
      obtain ⟨_, rfl, hP0, hK0, hD0, hE0⟩ := h0
      have pm2 := uj_29 (WX hX aX kX hT hM fX_ready fX_sheet dX_sheet nX_sheet iX_sheetLength (.ref (hJ 0)) (.ref (hO 0)) .null xX_values xX_clauses xX_nets) (WT hT aT kT fT_tape dT_tape nT_tape iT_length iT_fault_u iT_place_u iT_kind_u iT_at_u iT_number_u jT_name_u iT_next_u) (WM hM aM kM iM_stands_u iM_variables_u iM_rows_u iM_goals_u iM_differents_u iM_cases_u fM_from_u fM_to_u fM_whole_u fM_ways_u iM_plainRows_u fM_plainRow_u fM_kept_u fM_goalOver_u fM_goalUnder_u fM_goalMax_u fM_different_u) (WJ hJ aJ kJ hT hM hL (.ref dF_tree_u) iJ_used_u iJ_depth_u jJ_ownName_u gJ_binder_u iJ_binders_u iJ_firstSet_u iJ_secondSet_u) (WL hL aL kL hT hM xL_tree_u iL_names_u gL_key_u fL_kind_u fL_one_u fL_two_u fL_base_u iL_params_u fL_paramOver_u dL_paramOver_u nL_params_u fL_paramUnder_u dL_paramUnder_u nL_pu_u gL_over_u gL_under_u fL_bound_u iL_nameAt_u iL_startAt_u iL_steps_u jL_scaleOver_u jL_scaleUnder_u) (WF hF aF kF dF_tree_u nF_tree_u fF_tree_u) (WO hO aO kO hM hQ hw iO_answered_u iO_searched_u iO_searchedRelaxed iO_counted_u fO_countedCase gO_goalNumber gO_goalScale fO_start fO_column fO_chosen) (WQ hQ aQ kQ hw fQ_inside fQ_outside fQ_shut iQ_rows iQ_allRows iQ_columns) (WW nW hw lw kw wl wb wG) (wV) (wC) (wN)
      obtain ⟨hP9, hD9⟩ := frA pm1 pm2 hP0 hD0 hFq hP1 hD1
      exact ⟨⟨r, ((iT_length.toInt, qN, qC, qV), nX_sheet / 32 + nT_tape / 32 + nF_tree_u / 8 + 2 * nL_params_u + 24042 * 1 + nV / 4 + 20016 * gV, 2 * nX_sheet + 2 * nT_tape + 2 * nF_tree_u + 4 * nL_params_u + 449892 * 1 + 2 * nV + 181408 * gV, WX hX aX kX hT hM fX_ready fX_sheet dX_sheet nX_sheet iX_sheetLength (.ref (hJ 0)) (.ref (hO 0)) .null xX_values xX_clauses xX_nets ++ (WT hT aT kT fT_tape dT_tape nT_tape iT_length iT_fault_u iT_place_u iT_kind_u iT_at_u iT_number_u jT_name_u iT_next_u ++ (WM hM aM kM iM_stands_u iM_variables_u iM_rows_u iM_goals_u iM_differents_u iM_cases_u fM_from_u fM_to_u fM_whole_u fM_ways_u iM_plainRows_u fM_plainRow_u fM_kept_u fM_goalOver_u fM_goalUnder_u fM_goalMax_u fM_different_u ++ ((WJ hJ aJ kJ hT hM hL (.ref dF_tree_u) iJ_used_u iJ_depth_u jJ_ownName_u gJ_binder_u iJ_binders_u iJ_firstSet_u iJ_secondSet_u ++ (WL hL aL kL hT hM xL_tree_u iL_names_u gL_key_u fL_kind_u fL_one_u fL_two_u fL_base_u iL_params_u fL_paramOver_u dL_paramOver_u nL_params_u fL_paramUnder_u dL_paramUnder_u nL_pu_u gL_over_u gL_under_u fL_bound_u iL_nameAt_u iL_startAt_u iL_steps_u jL_scaleOver_u jL_scaleUnder_u ++ (WF hF aF kF dF_tree_u nF_tree_u fF_tree_u))) ++ ((WO hO aO kO hM hQ hw iO_answered_u iO_searched_u iO_searchedRelaxed iO_counted_u fO_countedCase gO_goalNumber gO_goalScale fO_start fO_column fO_chosen ++ (WQ hQ aQ kQ hw fQ_inside fQ_outside fQ_shut iQ_rows iQ_allRows iQ_columns ++ (WW nW hw lw kw wl wb wG))) ++ (wV ++ (wC ++ (wN)))))))), e1, ⟨⟨hX, aX, hT, hM, fX_ready, fX_sheet, dX_sheet, nX_sheet, iX_sheetLength, (.ref (hJ 0)), (.ref (hO 0)), .null, xX_values, xX_clauses, xX_nets, aT, fT_tape, dT_tape, nT_tape, iT_length, iT_fault_u, iT_place_u, iT_kind_u, iT_at_u, iT_number_u, jT_name_u, iT_next_u, aM, iM_stands_u, iM_variables_u, iM_rows_u, iM_goals_u, iM_differents_u, iM_cases_u, fM_from_u, fM_to_u, fM_whole_u, fM_ways_u, iM_plainRows_u, fM_plainRow_u, fM_kept_u, fM_goalOver_u, fM_goalUnder_u, fM_goalMax_u, fM_different_u, (WJ hJ aJ kJ hT hM hL (.ref dF_tree_u) iJ_used_u iJ_depth_u jJ_ownName_u gJ_binder_u iJ_binders_u iJ_firstSet_u iJ_secondSet_u ++ (WL hL aL kL hT hM xL_tree_u iL_names_u gL_key_u fL_kind_u fL_one_u fL_two_u fL_base_u iL_params_u fL_paramOver_u dL_paramOver_u nL_params_u fL_paramUnder_u dL_paramUnder_u nL_pu_u gL_over_u gL_under_u fL_bound_u iL_nameAt_u iL_startAt_u iL_steps_u jL_scaleOver_u jL_scaleUnder_u ++ (WF hF aF kF dF_tree_u nF_tree_u fF_tree_u))), (WO hO aO kO hM hQ hw iO_answered_u iO_searched_u iO_searchedRelaxed iO_counted_u fO_countedCase gO_goalNumber gO_goalScale fO_start fO_column fO_chosen ++ (WQ hQ aQ kQ hw fQ_inside fQ_outside fQ_shut iQ_rows iQ_allRows iQ_columns ++ (WW nW hw lw kw wl wb wG))), wV, wC, wN, nF_tree_u, nL_params_u, nV, 1, gV, qN, qC, qV, b_fX_sheet, b_nX_sheet, b_iX_sheetLength, b_shl, b_fT_tape, b_nT_tape, b_iT_length, b_iT_at_u, b_iT_number_u, b_iT_next_u, b_len, b_iM_stands_u, b_iM_variables_u, b_iM_rows_u, b_iM_goals_u, b_iM_differents_u, b_iM_cases_u, b_fM_ways_u, b_iM_plainRows_u, b_fM_plainRow_u, r_pr, (Or.inr ⟨hJ, aJ, hL, iJ_used_u, iJ_depth_u, jJ_ownName_u, gJ_binder_u, iJ_binders_u, iJ_firstSet_u, iJ_secondSet_u, aL, xL_tree_u, iL_names_u, gL_key_u, fL_kind_u, fL_one_u, fL_two_u, fL_base_u, iL_params_u, fL_paramOver_u, dL_paramOver_u, fL_paramUnder_u, dL_paramUnder_u, nL_pu_u, gL_over_u, gL_under_u, fL_bound_u, iL_nameAt_u, iL_startAt_u, iL_steps_u, jL_scaleOver_u, jL_scaleUnder_u, hF, aF, dF_tree_u, fF_tree_u, b_iJ_used_u, b_iJ_depth_u, b_iJ_binders_u, b_iJ_firstSet_u, b_iJ_secondSet_u, b_iL_names_u, b_fL_kind_u, b_fL_two_u, b_fL_base_u, b_iL_params_u, b_nL_params_u, r_nm, r_pm, r_pu, b_nF_tree_u, rfl, rfl⟩), (Or.inl ⟨Or.inr ⟨hO, aO, hQ, hw, iO_answered_u, iO_searched_u, iO_searchedRelaxed, iO_counted_u, fO_countedCase, gO_goalNumber, gO_goalScale, fO_start, fO_column, fO_chosen, aQ, fQ_inside, fQ_outside, fQ_shut, iQ_rows, iQ_allRows, iQ_columns, nW, lw, wl, wb, wG, b_iO_answered_u, b_iO_searched_u, b_iO_searchedRelaxed, b_iO_counted_u, b_fO_countedCase, b_fO_column, b_fO_chosen, b_iQ_rows, b_iQ_allRows, b_iQ_columns, b_tb, b_wl, b_wb, hn0, rfl, rfl⟩, rfl⟩), hVa, hCl, hNe, (Or.inr ⟨rfl, fun h => by cases h⟩), hgV, rfl, rfl, rfl, rfl, rfl⟩, (by first | rfl | ((try dsimp only); first | done | assumption | (exact ⟨fun h => ⟨hu1 h, hu2 h⟩, fun h => ⟨hu3 h, hu4 h⟩⟩) | omega | (exact ⟨fun h => ⟨by omega, by omega⟩, fun h => ⟨by omega, by omega⟩⟩)))⟩, hP9, hD9, (by (try dsimp only at hz hn ⊢); omega), (by (try dsimp only at hz hn ⊢); omega)⟩, frF pm1 hFq⟩
    · obtain ⟨u, hw9, hB9, hFq⟩ := hX9
      revert u hw9 hB9
      refine fz_p59 ?_
      intro iT_fault_u iT_place_u iT_kind_u iT_at_u iT_number_u jT_name_u iT_next_u iM_stands_u iM_variables_u iM_rows_u iM_goals_u iM_differents_u iM_cases_u fM_from_u fM_to_u fM_whole_u fM_ways_u iM_plainRows_u fM_plainRow_u fM_kept_u fM_goalOver_u fM_goalUnder_u fM_goalMax_u fM_different_u iJ_used_u iJ_depth_u jJ_ownName_u gJ_binder_u iJ_binders_u iJ_firstSet_u iJ_secondSet_u xL_tree_u iL_names_u gL_key_u fL_kind_u fL_one_u fL_two_u fL_base_u iL_params_u fL_paramOver_u dL_paramOver_u nL_params_u fL_paramUnder_u dL_paramUnder_u nL_pu_u gL_over_u gL_under_u fL_bound_u iL_nameAt_u iL_startAt_u iL_steps_u jL_scaleOver_u jL_scaleUnder_u dF_tree_u nF_tree_u fF_tree_u iO_answered_u iO_searched_u iO_counted_u hw9 hB9
      try dsimp only at hw9 hB9
      revert hw9
      refine fz_a31 ?_
      intro b_iT_at_u b_iT_number_u b_iT_next_u b_iM_stands_u b_iM_variables_u b_iM_rows_u b_iM_goals_u b_iM_differents_u b_iM_cases_u b_fM_ways_u b_iM_plainRows_u b_fM_plainRow_u b_iJ_used_u b_iJ_depth_u b_iJ_binders_u b_iJ_firstSet_u b_iJ_secondSet_u b_iL_names_u b_fL_kind_u b_fL_two_u b_fL_base_u b_iL_params_u b_nL_params_u b_nF_tree_u b_iO_answered_u b_iO_searched_u b_iO_counted_u r_pr r_nm r_pm r_pu
      obtain ⟨hEx, ⟨hP1, hD1, hg1, hg2⟩⟩ := hB9
      obtain ⟨_, rfl, hP0, hK0, hD0, hE0⟩ := h0
      have pm2 := uj_29 (WX hX aX kX hT hM fX_ready fX_sheet dX_sheet nX_sheet iX_sheetLength (.ref (hJ 0)) (.ref (hO 0)) .null xX_values xX_clauses xX_nets) (WT hT aT kT fT_tape dT_tape nT_tape iT_length iT_fault_u iT_place_u iT_kind_u iT_at_u iT_number_u jT_name_u iT_next_u) (WM hM aM kM iM_stands_u iM_variables_u iM_rows_u iM_goals_u iM_differents_u iM_cases_u fM_from_u fM_to_u fM_whole_u fM_ways_u iM_plainRows_u fM_plainRow_u fM_kept_u fM_goalOver_u fM_goalUnder_u fM_goalMax_u fM_different_u) (WJ hJ aJ kJ hT hM hL (.ref dF_tree_u) iJ_used_u iJ_depth_u jJ_ownName_u gJ_binder_u iJ_binders_u iJ_firstSet_u iJ_secondSet_u) (WL hL aL kL hT hM xL_tree_u iL_names_u gL_key_u fL_kind_u fL_one_u fL_two_u fL_base_u iL_params_u fL_paramOver_u dL_paramOver_u nL_params_u fL_paramUnder_u dL_paramUnder_u nL_pu_u gL_over_u gL_under_u fL_bound_u iL_nameAt_u iL_startAt_u iL_steps_u jL_scaleOver_u jL_scaleUnder_u) (WF hF aF kF dF_tree_u nF_tree_u fF_tree_u) (WO hO aO kO hM hQ hw iO_answered_u iO_searched_u iO_searchedRelaxed iO_counted_u fO_countedCase gO_goalNumber gO_goalScale fO_start fO_column fO_chosen) (WQ hQ aQ kQ hw fQ_inside fQ_outside fQ_shut iQ_rows iQ_allRows iQ_columns) (WW nW hw lw kw wl wb wG) (wV) (wC) (wN)
      obtain ⟨hP9, hD9⟩ := frA pm1 pm2 hP0 hD0 hFq hP1 hD1
      exact ⟨((iT_length.toInt, qN, qC, qV), nX_sheet / 32 + nT_tape / 32 + nF_tree_u / 8 + 2 * nL_params_u + 24042 * 1 + nV / 4 + 20016 * gV, 2 * nX_sheet + 2 * nT_tape + 2 * nF_tree_u + 4 * nL_params_u + 449892 * 1 + 2 * nV + 181408 * gV, WX hX aX kX hT hM fX_ready fX_sheet dX_sheet nX_sheet iX_sheetLength (.ref (hJ 0)) (.ref (hO 0)) .null xX_values xX_clauses xX_nets ++ (WT hT aT kT fT_tape dT_tape nT_tape iT_length iT_fault_u iT_place_u iT_kind_u iT_at_u iT_number_u jT_name_u iT_next_u ++ (WM hM aM kM iM_stands_u iM_variables_u iM_rows_u iM_goals_u iM_differents_u iM_cases_u fM_from_u fM_to_u fM_whole_u fM_ways_u iM_plainRows_u fM_plainRow_u fM_kept_u fM_goalOver_u fM_goalUnder_u fM_goalMax_u fM_different_u ++ ((WJ hJ aJ kJ hT hM hL (.ref dF_tree_u) iJ_used_u iJ_depth_u jJ_ownName_u gJ_binder_u iJ_binders_u iJ_firstSet_u iJ_secondSet_u ++ (WL hL aL kL hT hM xL_tree_u iL_names_u gL_key_u fL_kind_u fL_one_u fL_two_u fL_base_u iL_params_u fL_paramOver_u dL_paramOver_u nL_params_u fL_paramUnder_u dL_paramUnder_u nL_pu_u gL_over_u gL_under_u fL_bound_u iL_nameAt_u iL_startAt_u iL_steps_u jL_scaleOver_u jL_scaleUnder_u ++ (WF hF aF kF dF_tree_u nF_tree_u fF_tree_u))) ++ ((WO hO aO kO hM hQ hw iO_answered_u iO_searched_u iO_searchedRelaxed iO_counted_u fO_countedCase gO_goalNumber gO_goalScale fO_start fO_column fO_chosen ++ (WQ hQ aQ kQ hw fQ_inside fQ_outside fQ_shut iQ_rows iQ_allRows iQ_columns ++ (WW nW hw lw kw wl wb wG))) ++ (wV ++ (wC ++ (wN)))))))), ⟨⟨hX, aX, hT, hM, fX_ready, fX_sheet, dX_sheet, nX_sheet, iX_sheetLength, (.ref (hJ 0)), (.ref (hO 0)), .null, xX_values, xX_clauses, xX_nets, aT, fT_tape, dT_tape, nT_tape, iT_length, iT_fault_u, iT_place_u, iT_kind_u, iT_at_u, iT_number_u, jT_name_u, iT_next_u, aM, iM_stands_u, iM_variables_u, iM_rows_u, iM_goals_u, iM_differents_u, iM_cases_u, fM_from_u, fM_to_u, fM_whole_u, fM_ways_u, iM_plainRows_u, fM_plainRow_u, fM_kept_u, fM_goalOver_u, fM_goalUnder_u, fM_goalMax_u, fM_different_u, (WJ hJ aJ kJ hT hM hL (.ref dF_tree_u) iJ_used_u iJ_depth_u jJ_ownName_u gJ_binder_u iJ_binders_u iJ_firstSet_u iJ_secondSet_u ++ (WL hL aL kL hT hM xL_tree_u iL_names_u gL_key_u fL_kind_u fL_one_u fL_two_u fL_base_u iL_params_u fL_paramOver_u dL_paramOver_u nL_params_u fL_paramUnder_u dL_paramUnder_u nL_pu_u gL_over_u gL_under_u fL_bound_u iL_nameAt_u iL_startAt_u iL_steps_u jL_scaleOver_u jL_scaleUnder_u ++ (WF hF aF kF dF_tree_u nF_tree_u fF_tree_u))), (WO hO aO kO hM hQ hw iO_answered_u iO_searched_u iO_searchedRelaxed iO_counted_u fO_countedCase gO_goalNumber gO_goalScale fO_start fO_column fO_chosen ++ (WQ hQ aQ kQ hw fQ_inside fQ_outside fQ_shut iQ_rows iQ_allRows iQ_columns ++ (WW nW hw lw kw wl wb wG))), wV, wC, wN, nF_tree_u, nL_params_u, nV, 1, gV, qN, qC, qV, b_fX_sheet, b_nX_sheet, b_iX_sheetLength, b_shl, b_fT_tape, b_nT_tape, b_iT_length, b_iT_at_u, b_iT_number_u, b_iT_next_u, b_len, b_iM_stands_u, b_iM_variables_u, b_iM_rows_u, b_iM_goals_u, b_iM_differents_u, b_iM_cases_u, b_fM_ways_u, b_iM_plainRows_u, b_fM_plainRow_u, r_pr, (Or.inr ⟨hJ, aJ, hL, iJ_used_u, iJ_depth_u, jJ_ownName_u, gJ_binder_u, iJ_binders_u, iJ_firstSet_u, iJ_secondSet_u, aL, xL_tree_u, iL_names_u, gL_key_u, fL_kind_u, fL_one_u, fL_two_u, fL_base_u, iL_params_u, fL_paramOver_u, dL_paramOver_u, fL_paramUnder_u, dL_paramUnder_u, nL_pu_u, gL_over_u, gL_under_u, fL_bound_u, iL_nameAt_u, iL_startAt_u, iL_steps_u, jL_scaleOver_u, jL_scaleUnder_u, hF, aF, dF_tree_u, fF_tree_u, b_iJ_used_u, b_iJ_depth_u, b_iJ_binders_u, b_iJ_firstSet_u, b_iJ_secondSet_u, b_iL_names_u, b_fL_kind_u, b_fL_two_u, b_fL_base_u, b_iL_params_u, b_nL_params_u, r_nm, r_pm, r_pu, b_nF_tree_u, rfl, rfl⟩), (Or.inl ⟨Or.inr ⟨hO, aO, hQ, hw, iO_answered_u, iO_searched_u, iO_searchedRelaxed, iO_counted_u, fO_countedCase, gO_goalNumber, gO_goalScale, fO_start, fO_column, fO_chosen, aQ, fQ_inside, fQ_outside, fQ_shut, iQ_rows, iQ_allRows, iQ_columns, nW, lw, wl, wb, wG, b_iO_answered_u, b_iO_searched_u, b_iO_searchedRelaxed, b_iO_counted_u, b_fO_countedCase, b_fO_column, b_fO_chosen, b_iQ_rows, b_iQ_allRows, b_iQ_columns, b_tb, b_wl, b_wb, hn0, rfl, rfl⟩, rfl⟩), hVa, hCl, hNe, (Or.inr ⟨rfl, fun h => by cases h⟩), hgV, rfl, rfl, rfl, rfl, rfl⟩, rfl⟩, ⟨(by have h9 := hEx; exact h9), hP9, hD9, (by (try dsimp only at hz hn ⊢); omega), (by (try dsimp only at hz hn ⊢); omega)⟩, frF pm1 hFq⟩
  · intro hX aX hT hM fX_ready fX_sheet dX_sheet nX_sheet iX_sheetLength xX_values xX_clauses xX_nets aT fT_tape dT_tape nT_tape iT_length iT_fault iT_place iT_kind iT_at iT_number jT_name iT_next aM iM_stands iM_variables iM_rows iM_goals iM_differents iM_cases fM_from fM_to fM_whole fM_ways iM_plainRows fM_plainRow fM_kept fM_goalOver fM_goalUnder fM_goalMax fM_different wV wC wN nV gV qN qC qV hJ aJ hL iJ_used iJ_depth jJ_ownName gJ_binder iJ_binders iJ_firstSet iJ_secondSet aL xL_tree iL_names gL_key fL_kind fL_one fL_two fL_base iL_params fL_paramOver dL_paramOver nL_params fL_paramUnder dL_paramUnder nL_pu gL_over gL_under fL_bound iL_nameAt iL_startAt iL_steps jL_scaleOver jL_scaleUnder hF aF dF_tree nF_tree fF_tree hO aO hQ hw iO_answered iO_searched iO_searchedRelaxed iO_counted fO_countedCase gO_goalNumber gO_goalScale fO_start fO_column fO_chosen aQ fQ_inside fQ_outside fQ_shut iQ_rows iQ_allRows iQ_columns hG aG iG_made iG_keptNeeds fG_kept fG_need fG_turn iG_columns nW lw wl wb wG b_fX_sheet b_nX_sheet b_iX_sheetLength b_shl b_fT_tape b_nT_tape b_iT_length b_iT_at b_iT_number b_iT_next b_len b_iM_stands b_iM_variables b_iM_rows b_iM_goals b_iM_differents b_iM_cases b_fM_ways b_iM_plainRows b_fM_plainRow b_pr hVa hCl hNe hgV b_iJ_used b_iJ_depth b_iJ_binders b_iJ_firstSet b_iJ_secondSet b_iL_names b_fL_kind b_fL_two b_fL_base b_iL_params b_nL_params b_nm b_pm b_pu b_nF_tree b_iO_answered b_iO_searched b_iO_searchedRelaxed b_iO_counted b_fO_countedCase b_fO_column b_fO_chosen b_iQ_rows b_iQ_allRows b_iQ_columns b_tb b_iG_made b_fG_need b_iG_columns b_wl b_wb hnW
    have pm1 := uj_30 (WX hX aX kX hT hM fX_ready fX_sheet dX_sheet nX_sheet iX_sheetLength (.ref (hJ 0)) (.ref (hO 0)) (.ref (hG 0)) xX_values xX_clauses xX_nets) (WT hT aT kT fT_tape dT_tape nT_tape iT_length iT_fault iT_place iT_kind iT_at iT_number jT_name iT_next) (WM hM aM kM iM_stands iM_variables iM_rows iM_goals iM_differents iM_cases fM_from fM_to fM_whole fM_ways iM_plainRows fM_plainRow fM_kept fM_goalOver fM_goalUnder fM_goalMax fM_different) (WJ hJ aJ kJ hT hM hL (.ref dF_tree) iJ_used iJ_depth jJ_ownName gJ_binder iJ_binders iJ_firstSet iJ_secondSet) (WL hL aL kL hT hM xL_tree iL_names gL_key fL_kind fL_one fL_two fL_base iL_params fL_paramOver dL_paramOver nL_params fL_paramUnder dL_paramUnder nL_pu gL_over gL_under fL_bound iL_nameAt iL_startAt iL_steps jL_scaleOver jL_scaleUnder) (WF hF aF kF dF_tree nF_tree fF_tree) (WO hO aO kO hM hQ hw iO_answered iO_searched iO_searchedRelaxed iO_counted fO_countedCase gO_goalNumber gO_goalScale fO_start fO_column fO_chosen) (WQ hQ aQ kQ hw fQ_inside fQ_outside fQ_shut iQ_rows iQ_allRows iQ_columns) (WG hG aG kG hM hO hQ hw iG_made iG_keptNeeds fG_kept fG_need fG_turn iG_columns) (WW nW hw lw kw wl wb wG) (wV) (wC) (wN)
    refine vx_Met.ad (m_X11_read_21 l hst dC dI hX aX kX hT hM fX_ready fX_sheet dX_sheet nX_sheet iX_sheetLength xX_values xX_clauses xX_nets aT kT fT_tape dT_tape nT_tape iT_length iT_fault iT_place iT_kind iT_at iT_number jT_name iT_next aM kM iM_stands iM_variables iM_rows iM_goals iM_differents iM_cases fM_from fM_to fM_whole fM_ways iM_plainRows fM_plainRow fM_kept fM_goalOver fM_goalUnder fM_goalMax fM_different hJ aJ kJ hL iJ_used iJ_depth jJ_ownName gJ_binder iJ_binders iJ_firstSet iJ_secondSet aL kL xL_tree iL_names gL_key fL_kind fL_one fL_two fL_base iL_params fL_paramOver dL_paramOver nL_params fL_paramUnder dL_paramUnder nL_pu gL_over gL_under fL_bound iL_nameAt iL_startAt iL_steps jL_scaleOver jL_scaleUnder hF aF kF dF_tree nF_tree fF_tree hO aO kO hQ hw iO_answered iO_searched iO_searchedRelaxed iO_counted fO_countedCase gO_goalNumber gO_goalScale fO_start fO_column fO_chosen aQ kQ fQ_inside fQ_outside fQ_shut iQ_rows iQ_allRows iQ_columns hG aG kG iG_made iG_keptNeeds fG_kept fG_need fG_turn iG_columns nW lw kw wl wb wG b_fX_sheet b_nX_sheet b_iX_sheetLength b_shl b_fT_tape b_nT_tape b_iT_length b_iT_at b_iT_number b_iT_next b_len b_iM_stands b_iM_variables b_iM_rows b_iM_goals b_iM_differents b_iM_cases b_fM_ways b_iM_plainRows b_fM_plainRow b_pr b_iJ_used b_iJ_depth b_iJ_binders b_iJ_firstSet b_iJ_secondSet b_iL_names b_fL_kind b_fL_two b_fL_base b_iL_params b_nL_params b_nm b_pm b_pu b_nF_tree b_iO_answered b_iO_searched b_iO_searchedRelaxed b_iO_counted b_fO_countedCase b_fO_column b_fO_chosen b_iQ_rows b_iQ_allRows b_iQ_columns b_tb b_iG_made b_fG_need b_iG_columns b_wl b_wb (by omega) sz) (fun _ h9 => List.mem_append_right _ (List.mem_append_right _ (List.mem_append_right _ (List.mem_append_right _ (List.mem_append_right _ (h9)))))) ⟨(Nat.le_of_ble_eq_true rfl), (Nat.le_of_ble_eq_true rfl), (Nat.le_of_ble_eq_true rfl), (Nat.le_of_ble_eq_true rfl)⟩ (Nat.le_of_ble_eq_true rfl) (Nat.le_of_ble_eq_true rfl) (fun a U h9 => ⟨h9.1, h9.2.1, h9.2.2.1.mem (fun q hq => pm1.mem_iff.mpr (List.mem_append_left _ hq)), h9.2.2.2.1.sub [0, 1, 2, 3, 4, 5, 6, 7, 8, 9, 10, 11, 12, 43, 44, 45, 46, 47, 48, 49, 50, 51, 52, 53, 54, 55, 56, 57, 58, 59, 60, 61, 62, 63, 64, 65, 66, 67, 68, 69, 70, 71, 72, 73, 74] rfl, (h9.2.2.2.2.1.perm pm1).left, h9.2.2.2.2.2.narrow (frS pm1)⟩) (fun a st o t h0 hvm hz hn hQ9 => ?_) (fun a E st t h0 hvm hz hn hX9 => ?_) (frS pm1)
    · obtain ⟨⟨r, u, e1, hw9, hB9⟩, hFq⟩ := hQ9
      revert u hw9 hB9
      refine fz_p60 ?_
      intro iT_fault_u iT_place_u iT_kind_u iT_at_u iT_number_u jT_name_u iT_next_u iM_stands_u iM_variables_u iM_rows_u iM_goals_u iM_differents_u iM_cases_u fM_from_u fM_to_u fM_whole_u fM_ways_u iM_plainRows_u fM_plainRow_u fM_kept_u fM_goalOver_u fM_goalUnder_u fM_goalMax_u fM_different_u iJ_used_u iJ_depth_u jJ_ownName_u gJ_binder_u iJ_binders_u iJ_firstSet_u iJ_secondSet_u xL_tree_u iL_names_u gL_key_u fL_kind_u fL_one_u fL_two_u fL_base_u iL_params_u fL_paramOver_u dL_paramOver_u nL_params_u fL_paramUnder_u dL_paramUnder_u nL_pu_u gL_over_u gL_under_u fL_bound_u iL_nameAt_u iL_startAt_u iL_steps_u jL_scaleOver_u jL_scaleUnder_u dF_tree_u nF_tree_u fF_tree_u iO_answered_u iO_searched_u iO_counted_u iG_made_u hw9 hB9
      try dsimp only at hw9 hB9
      revert hw9
      refine fz_a34 ?_
      intro b_iT_at_u b_iT_number_u b_iT_next_u b_iM_stands_u b_iM_variables_u b_iM_rows_u b_iM_goals_u b_iM_differents_u b_iM_cases_u b_fM_ways_u b_iM_plainRows_u b_fM_plainRow_u b_iJ_used_u b_iJ_depth_u b_iJ_binders_u b_iJ_firstSet_u b_iJ_secondSet_u b_iL_names_u b_fL_kind_u b_fL_two_u b_fL_base_u b_iL_params_u b_nL_params_u b_nF_tree_u b_iO_answered_u b_iO_searched_u b_iO_counted_u b_iG_made_u r_pr r_nm r_pm r_pu hu0 hu1
      revert hB9
      refine fz_a4 ?_
      intro hP1 hD1 hg1 hg2
      obtain ⟨_, rfl, hP0, hK0, hD0, hE0⟩ := h0
      have pm2 := uj_30 (WX hX aX kX hT hM fX_ready fX_sheet dX_sheet nX_sheet iX_sheetLength (.ref (hJ 0)) (.ref (hO 0)) (.ref (hG 0)) xX_values xX_clauses xX_nets) (WT hT aT kT fT_tape dT_tape nT_tape iT_length iT_fault_u iT_place_u iT_kind_u iT_at_u iT_number_u jT_name_u iT_next_u) (WM hM aM kM iM_stands_u iM_variables_u iM_rows_u iM_goals_u iM_differents_u iM_cases_u fM_from_u fM_to_u fM_whole_u fM_ways_u iM_plainRows_u fM_plainRow_u fM_kept_u fM_goalOver_u fM_goalUnder_u fM_goalMax_u fM_different_u) (WJ hJ aJ kJ hT hM hL (.ref dF_tree_u) iJ_used_u iJ_depth_u jJ_ownName_u gJ_binder_u iJ_binders_u iJ_firstSet_u iJ_secondSet_u) (WL hL aL kL hT hM xL_tree_u iL_names_u gL_key_u fL_kind_u fL_one_u fL_two_u fL_base_u iL_params_u fL_paramOver_u dL_paramOver_u nL_params_u fL_paramUnder_u dL_paramUnder_u nL_pu_u gL_over_u gL_under_u fL_bound_u iL_nameAt_u iL_startAt_u iL_steps_u jL_scaleOver_u jL_scaleUnder_u) (WF hF aF kF dF_tree_u nF_tree_u fF_tree_u) (WO hO aO kO hM hQ hw iO_answered_u iO_searched_u iO_searchedRelaxed iO_counted_u fO_countedCase gO_goalNumber gO_goalScale fO_start fO_column fO_chosen) (WQ hQ aQ kQ hw fQ_inside fQ_outside fQ_shut iQ_rows iQ_allRows iQ_columns) (WG hG aG kG hM hO hQ hw iG_made_u iG_keptNeeds fG_kept fG_need fG_turn iG_columns) (WW nW hw lw kw wl wb wG) (wV) (wC) (wN)
      obtain ⟨hP9, hD9⟩ := frA pm1 pm2 hP0 hD0 hFq hP1 hD1
      exact ⟨⟨r, ((iT_length.toInt, qN, qC, qV), nX_sheet / 32 + nT_tape / 32 + nF_tree_u / 8 + 2 * nL_params_u + 24042 * 1 + nV / 4 + 20016 * gV, 2 * nX_sheet + 2 * nT_tape + 2 * nF_tree_u + 4 * nL_params_u + 449892 * 1 + 2 * nV + 181408 * gV, WX hX aX kX hT hM fX_ready fX_sheet dX_sheet nX_sheet iX_sheetLength (.ref (hJ 0)) (.ref (hO 0)) (.ref (hG 0)) xX_values xX_clauses xX_nets ++ (WT hT aT kT fT_tape dT_tape nT_tape iT_length iT_fault_u iT_place_u iT_kind_u iT_at_u iT_number_u jT_name_u iT_next_u ++ (WM hM aM kM iM_stands_u iM_variables_u iM_rows_u iM_goals_u iM_differents_u iM_cases_u fM_from_u fM_to_u fM_whole_u fM_ways_u iM_plainRows_u fM_plainRow_u fM_kept_u fM_goalOver_u fM_goalUnder_u fM_goalMax_u fM_different_u ++ ((WJ hJ aJ kJ hT hM hL (.ref dF_tree_u) iJ_used_u iJ_depth_u jJ_ownName_u gJ_binder_u iJ_binders_u iJ_firstSet_u iJ_secondSet_u ++ (WL hL aL kL hT hM xL_tree_u iL_names_u gL_key_u fL_kind_u fL_one_u fL_two_u fL_base_u iL_params_u fL_paramOver_u dL_paramOver_u nL_params_u fL_paramUnder_u dL_paramUnder_u nL_pu_u gL_over_u gL_under_u fL_bound_u iL_nameAt_u iL_startAt_u iL_steps_u jL_scaleOver_u jL_scaleUnder_u ++ (WF hF aF kF dF_tree_u nF_tree_u fF_tree_u))) ++ ((WO hO aO kO hM hQ hw iO_answered_u iO_searched_u iO_searchedRelaxed iO_counted_u fO_countedCase gO_goalNumber gO_goalScale fO_start fO_column fO_chosen ++ (WQ hQ aQ kQ hw fQ_inside fQ_outside fQ_shut iQ_rows iQ_allRows iQ_columns ++ (WG hG aG kG hM hO hQ hw iG_made_u iG_keptNeeds fG_kept fG_need fG_turn iG_columns ++ (WW nW hw lw kw wl wb wG)))) ++ (wV ++ (wC ++ (wN)))))))), e1, ⟨⟨hX, aX, hT, hM, fX_ready, fX_sheet, dX_sheet, nX_sheet, iX_sheetLength, (.ref (hJ 0)), (.ref (hO 0)), (.ref (hG 0)), xX_values, xX_clauses, xX_nets, aT, fT_tape, dT_tape, nT_tape, iT_length, iT_fault_u, iT_place_u, iT_kind_u, iT_at_u, iT_number_u, jT_name_u, iT_next_u, aM, iM_stands_u, iM_variables_u, iM_rows_u, iM_goals_u, iM_differents_u, iM_cases_u, fM_from_u, fM_to_u, fM_whole_u, fM_ways_u, iM_plainRows_u, fM_plainRow_u, fM_kept_u, fM_goalOver_u, fM_goalUnder_u, fM_goalMax_u, fM_different_u, (WJ hJ aJ kJ hT hM hL (.ref dF_tree_u) iJ_used_u iJ_depth_u jJ_ownName_u gJ_binder_u iJ_binders_u iJ_firstSet_u iJ_secondSet_u ++ (WL hL aL kL hT hM xL_tree_u iL_names_u gL_key_u fL_kind_u fL_one_u fL_two_u fL_base_u iL_params_u fL_paramOver_u dL_paramOver_u nL_params_u fL_paramUnder_u dL_paramUnder_u nL_pu_u gL_over_u gL_under_u fL_bound_u iL_nameAt_u iL_startAt_u iL_steps_u jL_scaleOver_u jL_scaleUnder_u ++ (WF hF aF kF dF_tree_u nF_tree_u fF_tree_u))), (WO hO aO kO hM hQ hw iO_answered_u iO_searched_u iO_searchedRelaxed iO_counted_u fO_countedCase gO_goalNumber gO_goalScale fO_start fO_column fO_chosen ++ (WQ hQ aQ kQ hw fQ_inside fQ_outside fQ_shut iQ_rows iQ_allRows iQ_columns ++ (WG hG aG kG hM hO hQ hw iG_made_u iG_keptNeeds fG_kept fG_need fG_turn iG_columns ++ (WW nW hw lw kw wl wb wG)))), wV, wC, wN, nF_tree_u, nL_params_u, nV, 1, gV, qN, qC, qV, b_fX_sheet, b_nX_sheet, b_iX_sheetLength, b_shl, b_fT_tape, b_nT_tape, b_iT_length, b_iT_at_u, b_iT_number_u, b_iT_next_u, b_len, b_iM_stands_u, b_iM_variables_u, b_iM_rows_u, b_iM_goals_u, b_iM_differents_u, b_iM_cases_u, b_fM_ways_u, b_iM_plainRows_u, b_fM_plainRow_u, r_pr, (Or.inr ⟨hJ, aJ, hL, iJ_used_u, iJ_depth_u, jJ_ownName_u, gJ_binder_u, iJ_binders_u, iJ_firstSet_u, iJ_secondSet_u, aL, xL_tree_u, iL_names_u, gL_key_u, fL_kind_u, fL_one_u, fL_two_u, fL_base_u, iL_params_u, fL_paramOver_u, dL_paramOver_u, fL_paramUnder_u, dL_paramUnder_u, nL_pu_u, gL_over_u, gL_under_u, fL_bound_u, iL_nameAt_u, iL_startAt_u, iL_steps_u, jL_scaleOver_u, jL_scaleUnder_u, hF, aF, dF_tree_u, fF_tree_u, b_iJ_used_u, b_iJ_depth_u, b_iJ_binders_u, b_iJ_firstSet_u, b_iJ_secondSet_u, b_iL_names_u, b_fL_kind_u, b_fL_two_u, b_fL_base_u, b_iL_params_u, b_nL_params_u, r_nm, r_pm, r_pu, b_nF_tree_u, rfl, rfl⟩), (Or.inr ⟨hO, aO, hQ, hw, iO_answered_u, iO_searched_u, iO_searchedRelaxed, iO_counted_u, fO_countedCase, gO_goalNumber, gO_goalScale, fO_start, fO_column, fO_chosen, aQ, fQ_inside, fQ_outside, fQ_shut, iQ_rows, iQ_allRows, iQ_columns, hG, aG, iG_made_u, iG_keptNeeds, fG_kept, fG_need, fG_turn, iG_columns, nW, lw, wl, wb, wG, b_iO_answered_u, b_iO_searched_u, b_iO_searchedRelaxed, b_iO_counted_u, b_fO_countedCase, b_fO_column, b_fO_chosen, b_iQ_rows, b_iQ_allRows, b_iQ_columns, b_tb, b_iG_made_u, b_fG_need, b_iG_columns, b_wl, b_wb, hnW, rfl, rfl, rfl⟩), hVa, hCl, hNe, (Or.inr ⟨rfl, fun h => by cases h⟩), hgV, rfl, rfl, rfl, rfl, rfl⟩, (by first | rfl | ((try dsimp only); first | done | assumption | (exact ⟨fun h => ⟨hu1 h, hu2 h⟩, fun h => ⟨hu3 h, hu4 h⟩⟩) | omega | (exact ⟨fun h => ⟨by omega, by omega⟩, fun h => ⟨by omega, by omega⟩⟩)))⟩, hP9, hD9, (by (try dsimp only at hz hn ⊢); omega), (by (try dsimp only at hz hn ⊢); omega)⟩, frF pm1 hFq⟩
    · obtain ⟨u, hw9, hB9, hFq⟩ := hX9
      revert u hw9 hB9
      refine fz_p60 ?_
      intro iT_fault_u iT_place_u iT_kind_u iT_at_u iT_number_u jT_name_u iT_next_u iM_stands_u iM_variables_u iM_rows_u iM_goals_u iM_differents_u iM_cases_u fM_from_u fM_to_u fM_whole_u fM_ways_u iM_plainRows_u fM_plainRow_u fM_kept_u fM_goalOver_u fM_goalUnder_u fM_goalMax_u fM_different_u iJ_used_u iJ_depth_u jJ_ownName_u gJ_binder_u iJ_binders_u iJ_firstSet_u iJ_secondSet_u xL_tree_u iL_names_u gL_key_u fL_kind_u fL_one_u fL_two_u fL_base_u iL_params_u fL_paramOver_u dL_paramOver_u nL_params_u fL_paramUnder_u dL_paramUnder_u nL_pu_u gL_over_u gL_under_u fL_bound_u iL_nameAt_u iL_startAt_u iL_steps_u jL_scaleOver_u jL_scaleUnder_u dF_tree_u nF_tree_u fF_tree_u iO_answered_u iO_searched_u iO_counted_u iG_made_u hw9 hB9
      try dsimp only at hw9 hB9
      revert hw9
      refine fz_a32 ?_
      intro b_iT_at_u b_iT_number_u b_iT_next_u b_iM_stands_u b_iM_variables_u b_iM_rows_u b_iM_goals_u b_iM_differents_u b_iM_cases_u b_fM_ways_u b_iM_plainRows_u b_fM_plainRow_u b_iJ_used_u b_iJ_depth_u b_iJ_binders_u b_iJ_firstSet_u b_iJ_secondSet_u b_iL_names_u b_fL_kind_u b_fL_two_u b_fL_base_u b_iL_params_u b_nL_params_u b_nF_tree_u b_iO_answered_u b_iO_searched_u b_iO_counted_u b_iG_made_u r_pr r_nm r_pm r_pu
      obtain ⟨hEx, ⟨hP1, hD1, hg1, hg2⟩⟩ := hB9
      obtain ⟨_, rfl, hP0, hK0, hD0, hE0⟩ := h0
      have pm2 := uj_30 (WX hX aX kX hT hM fX_ready fX_sheet dX_sheet nX_sheet iX_sheetLength (.ref (hJ 0)) (.ref (hO 0)) (.ref (hG 0)) xX_values xX_clauses xX_nets) (WT hT aT kT fT_tape dT_tape nT_tape iT_length iT_fault_u iT_place_u iT_kind_u iT_at_u iT_number_u jT_name_u iT_next_u) (WM hM aM kM iM_stands_u iM_variables_u iM_rows_u iM_goals_u iM_differents_u iM_cases_u fM_from_u fM_to_u fM_whole_u fM_ways_u iM_plainRows_u fM_plainRow_u fM_kept_u fM_goalOver_u fM_goalUnder_u fM_goalMax_u fM_different_u) (WJ hJ aJ kJ hT hM hL (.ref dF_tree_u) iJ_used_u iJ_depth_u jJ_ownName_u gJ_binder_u iJ_binders_u iJ_firstSet_u iJ_secondSet_u) (WL hL aL kL hT hM xL_tree_u iL_names_u gL_key_u fL_kind_u fL_one_u fL_two_u fL_base_u iL_params_u fL_paramOver_u dL_paramOver_u nL_params_u fL_paramUnder_u dL_paramUnder_u nL_pu_u gL_over_u gL_under_u fL_bound_u iL_nameAt_u iL_startAt_u iL_steps_u jL_scaleOver_u jL_scaleUnder_u) (WF hF aF kF dF_tree_u nF_tree_u fF_tree_u) (WO hO aO kO hM hQ hw iO_answered_u iO_searched_u iO_searchedRelaxed iO_counted_u fO_countedCase gO_goalNumber gO_goalScale fO_start fO_column fO_chosen) (WQ hQ aQ kQ hw fQ_inside fQ_outside fQ_shut iQ_rows iQ_allRows iQ_columns) (WG hG aG kG hM hO hQ hw iG_made_u iG_keptNeeds fG_kept fG_need fG_turn iG_columns) (WW nW hw lw kw wl wb wG) (wV) (wC) (wN)
      obtain ⟨hP9, hD9⟩ := frA pm1 pm2 hP0 hD0 hFq hP1 hD1
      exact ⟨((iT_length.toInt, qN, qC, qV), nX_sheet / 32 + nT_tape / 32 + nF_tree_u / 8 + 2 * nL_params_u + 24042 * 1 + nV / 4 + 20016 * gV, 2 * nX_sheet + 2 * nT_tape + 2 * nF_tree_u + 4 * nL_params_u + 449892 * 1 + 2 * nV + 181408 * gV, WX hX aX kX hT hM fX_ready fX_sheet dX_sheet nX_sheet iX_sheetLength (.ref (hJ 0)) (.ref (hO 0)) (.ref (hG 0)) xX_values xX_clauses xX_nets ++ (WT hT aT kT fT_tape dT_tape nT_tape iT_length iT_fault_u iT_place_u iT_kind_u iT_at_u iT_number_u jT_name_u iT_next_u ++ (WM hM aM kM iM_stands_u iM_variables_u iM_rows_u iM_goals_u iM_differents_u iM_cases_u fM_from_u fM_to_u fM_whole_u fM_ways_u iM_plainRows_u fM_plainRow_u fM_kept_u fM_goalOver_u fM_goalUnder_u fM_goalMax_u fM_different_u ++ ((WJ hJ aJ kJ hT hM hL (.ref dF_tree_u) iJ_used_u iJ_depth_u jJ_ownName_u gJ_binder_u iJ_binders_u iJ_firstSet_u iJ_secondSet_u ++ (WL hL aL kL hT hM xL_tree_u iL_names_u gL_key_u fL_kind_u fL_one_u fL_two_u fL_base_u iL_params_u fL_paramOver_u dL_paramOver_u nL_params_u fL_paramUnder_u dL_paramUnder_u nL_pu_u gL_over_u gL_under_u fL_bound_u iL_nameAt_u iL_startAt_u iL_steps_u jL_scaleOver_u jL_scaleUnder_u ++ (WF hF aF kF dF_tree_u nF_tree_u fF_tree_u))) ++ ((WO hO aO kO hM hQ hw iO_answered_u iO_searched_u iO_searchedRelaxed iO_counted_u fO_countedCase gO_goalNumber gO_goalScale fO_start fO_column fO_chosen ++ (WQ hQ aQ kQ hw fQ_inside fQ_outside fQ_shut iQ_rows iQ_allRows iQ_columns ++ (WG hG aG kG hM hO hQ hw iG_made_u iG_keptNeeds fG_kept fG_need fG_turn iG_columns ++ (WW nW hw lw kw wl wb wG)))) ++ (wV ++ (wC ++ (wN)))))))), ⟨⟨hX, aX, hT, hM, fX_ready, fX_sheet, dX_sheet, nX_sheet, iX_sheetLength, (.ref (hJ 0)), (.ref (hO 0)), (.ref (hG 0)), xX_values, xX_clauses, xX_nets, aT, fT_tape, dT_tape, nT_tape, iT_length, iT_fault_u, iT_place_u, iT_kind_u, iT_at_u, iT_number_u, jT_name_u, iT_next_u, aM, iM_stands_u, iM_variables_u, iM_rows_u, iM_goals_u, iM_differents_u, iM_cases_u, fM_from_u, fM_to_u, fM_whole_u, fM_ways_u, iM_plainRows_u, fM_plainRow_u, fM_kept_u, fM_goalOver_u, fM_goalUnder_u, fM_goalMax_u, fM_different_u, (WJ hJ aJ kJ hT hM hL (.ref dF_tree_u) iJ_used_u iJ_depth_u jJ_ownName_u gJ_binder_u iJ_binders_u iJ_firstSet_u iJ_secondSet_u ++ (WL hL aL kL hT hM xL_tree_u iL_names_u gL_key_u fL_kind_u fL_one_u fL_two_u fL_base_u iL_params_u fL_paramOver_u dL_paramOver_u nL_params_u fL_paramUnder_u dL_paramUnder_u nL_pu_u gL_over_u gL_under_u fL_bound_u iL_nameAt_u iL_startAt_u iL_steps_u jL_scaleOver_u jL_scaleUnder_u ++ (WF hF aF kF dF_tree_u nF_tree_u fF_tree_u))), (WO hO aO kO hM hQ hw iO_answered_u iO_searched_u iO_searchedRelaxed iO_counted_u fO_countedCase gO_goalNumber gO_goalScale fO_start fO_column fO_chosen ++ (WQ hQ aQ kQ hw fQ_inside fQ_outside fQ_shut iQ_rows iQ_allRows iQ_columns ++ (WG hG aG kG hM hO hQ hw iG_made_u iG_keptNeeds fG_kept fG_need fG_turn iG_columns ++ (WW nW hw lw kw wl wb wG)))), wV, wC, wN, nF_tree_u, nL_params_u, nV, 1, gV, qN, qC, qV, b_fX_sheet, b_nX_sheet, b_iX_sheetLength, b_shl, b_fT_tape, b_nT_tape, b_iT_length, b_iT_at_u, b_iT_number_u, b_iT_next_u, b_len, b_iM_stands_u, b_iM_variables_u, b_iM_rows_u, b_iM_goals_u, b_iM_differents_u, b_iM_cases_u, b_fM_ways_u, b_iM_plainRows_u, b_fM_plainRow_u, r_pr, (Or.inr ⟨hJ, aJ, hL, iJ_used_u, iJ_depth_u, jJ_ownName_u, gJ_binder_u, iJ_binders_u, iJ_firstSet_u, iJ_secondSet_u, aL, xL_tree_u, iL_names_u, gL_key_u, fL_kind_u, fL_one_u, fL_two_u, fL_base_u, iL_params_u, fL_paramOver_u, dL_paramOver_u, fL_paramUnder_u, dL_paramUnder_u, nL_pu_u, gL_over_u, gL_under_u, fL_bound_u, iL_nameAt_u, iL_startAt_u, iL_steps_u, jL_scaleOver_u, jL_scaleUnder_u, hF, aF, dF_tree_u, fF_tree_u, b_iJ_used_u, b_iJ_depth_u, b_iJ_binders_u, b_iJ_firstSet_u, b_iJ_secondSet_u, b_iL_names_u, b_fL_kind_u, b_fL_two_u, b_fL_base_u, b_iL_params_u, b_nL_params_u, r_nm, r_pm, r_pu, b_nF_tree_u, rfl, rfl⟩), (Or.inr ⟨hO, aO, hQ, hw, iO_answered_u, iO_searched_u, iO_searchedRelaxed, iO_counted_u, fO_countedCase, gO_goalNumber, gO_goalScale, fO_start, fO_column, fO_chosen, aQ, fQ_inside, fQ_outside, fQ_shut, iQ_rows, iQ_allRows, iQ_columns, hG, aG, iG_made_u, iG_keptNeeds, fG_kept, fG_need, fG_turn, iG_columns, nW, lw, wl, wb, wG, b_iO_answered_u, b_iO_searched_u, b_iO_searchedRelaxed, b_iO_counted_u, b_fO_countedCase, b_fO_column, b_fO_chosen, b_iQ_rows, b_iQ_allRows, b_iQ_columns, b_tb, b_iG_made_u, b_fG_need, b_iG_columns, b_wl, b_wb, hnW, rfl, rfl, rfl⟩), hVa, hCl, hNe, (Or.inr ⟨rfl, fun h => by cases h⟩), hgV, rfl, rfl, rfl, rfl, rfl⟩, rfl⟩, ⟨(by have h9 := hEx; exact h9), hP9, hD9, (by (try dsimp only at hz hn ⊢); omega), (by (try dsimp only at hz hn ⊢); omega)⟩, frF pm1 hFq⟩
end
section
/-- chains of updates, told by their places and the numbers of their values: equal where the places say so -/
def ch_N {α : Type} (d : α) : List α → Nat → α
  | [], _ => d
  | x :: _, 0 => x
  | _ :: r, n + 1 => ch_N d r n
def ch_T {α : Type} (f : Nat → α) (vs : List α) (k : Nat) : Nat → α
  | 0 => f k
  | n + 1 => ch_N (f k) vs n
def ch_H {α : Type} (f : Nat → α) (vs : List α) : List (Nat × Nat) → (Nat → α)
  | [] => f
  | e :: r => fT (ch_H f vs r) e.1 (ch_T f vs e.1 e.2)
def ch_L : List (Nat × Nat) → Nat → Nat
  | [], _ => 0
  | e :: r, j => cond (Nat.beq j e.1) e.2 (ch_L r j)
theorem ch_at {α : Type} (f : Nat → α) (vs : List α) : ∀ (L : List (Nat × Nat)) (j : Nat), ch_H f vs L j = ch_T f vs j (ch_L L j) := by
  intro L
  induction L with
  | nil => intro j; rfl
  | cons e r ih =>
    intro j
    show fT (ch_H f vs r) e.1 (ch_T f vs e.1 e.2) j = ch_T f vs j (cond (Nat.beq j e.1) e.2 (ch_L r j))
    cases h : Nat.beq j e.1 with
    | true =>
      have h1 : j = e.1 := Nat.eq_of_beq_eq_true h
      exact (show fT (ch_H f vs r) e.1 (ch_T f vs e.1 e.2) j = ch_T f vs j e.2 from by subst h1; exact fT_eq _ _ _)
    | false => exact (fT_ne _ _ (Nat.ne_of_beq_eq_false h)).trans (ih j)
theorem ch_none : ∀ (L : List (Nat × Nat)) (j : Nat), (∀ e ∈ L, j ≠ e.1) → ch_L L j = 0 := by
  intro L
  induction L with
  | nil => intro j _; rfl
  | cons e r ih =>
    intro j hn
    have h0 : Nat.beq j e.1 = false := by
      cases h : Nat.beq j e.1 with
      | false => rfl
      | true => exact absurd (Nat.eq_of_beq_eq_true h) (hn e List.mem_cons_self)
    show cond (Nat.beq j e.1) e.2 (ch_L r j) = 0
    rw [h0]
    exact ih j (fun x hx => hn x (List.mem_cons_of_mem _ hx))
def ch_O : List Nat → Nat → Bool
  | [], _ => false
  | x :: r, j => cond (Nat.beq j x) true (ch_O r j)
def ch_C (X : List Nat) (L1 L2 : List (Nat × Nat)) : Bool := L1.all (fun e => ch_O X e.1 || Nat.beq (ch_L L1 e.1) (ch_L L2 e.1)) && L2.all (fun e => ch_O X e.1 || Nat.beq (ch_L L1 e.1) (ch_L L2 e.1))
/-- the values at the places that are told by other words on the two sides -/
def ch_X {α : Type} (f : Nat → α) (vs : List α) (L1 L2 : List (Nat × Nat)) : List Nat → Prop
  | [] => True
  | k :: r => ch_T f vs k (ch_L L1 k) = ch_T f vs k (ch_L L2 k) ∧ ch_X f vs L1 L2 r
theorem ch_Xo {α : Type} {f : Nat → α} {vs : List α} {L1 L2 : List (Nat × Nat)} {j : Nat} : ∀ X : List Nat, ch_X f vs L1 L2 X → ch_O X j = true → ch_T f vs j (ch_L L1 j) = ch_T f vs j (ch_L L2 j) := by
  intro X
  induction X with
  | nil => intro _ h; exact Bool.noConfusion (show false = true from h)
  | cons x r ih =>
    intro hx h
    have h0 : cond (Nat.beq j x) true (ch_O r j) = true := h
    cases hb : Nat.beq j x with
    | true =>
      have h1 : j = x := Nat.eq_of_beq_eq_true hb
      subst h1
      exact hx.1
    | false =>
      rw [hb] at h0
      exact ih hx.2 h0
theorem ch_E {α : Type} (f : Nat → α) (vs : List α) (L1 L2 : List (Nat × Nat)) (X : List Nat) (hX : ch_X f vs L1 L2 X) (h : ch_C X L1 L2 = true) : ch_H f vs L1 = ch_H f vs L2 := by
  funext j
  rw [ch_at, ch_at]
  unfold ch_C at h
  rw [Bool.and_eq_true, List.all_eq_true, List.all_eq_true] at h
  obtain ⟨h1, h2⟩ := h
  have hk : (ch_O X j || Nat.beq (ch_L L1 j) (ch_L L2 j)) = true → ch_T f vs j (ch_L L1 j) = ch_T f vs j (ch_L L2 j) := by
    intro h3
    cases ho : ch_O X j with
    | true => exact ch_Xo X hX ho
    | false =>
      rw [ho, Bool.false_or] at h3
      rw [Nat.eq_of_beq_eq_true h3]
  by_cases a : ∃ e ∈ L1, j = e.1
  · obtain ⟨e, he, rfl⟩ := a
    exact hk (h1 e he)
  · by_cases b : ∃ e ∈ L2, j = e.1
    · obtain ⟨e, he, rfl⟩ := b
      exact hk (h2 e he)
    · rw [ch_none L1 j (fun e he h => a ⟨e, he, h⟩), ch_none L2 j (fun e he h => b ⟨e, he, h⟩)]
theorem fz_w {D : va_G} {cl : List vw_C} {H : Heap} {w1 w2 : va_W} (e : w1 = w2) (h : va_P D cl w1 H) : va_P D cl w2 H := e ▸ h
theorem fz_wD {A : Nat → Prop} {w1 w2 : va_W} (e : w1 = w2) (h : va_D A w1) : va_D A w2 := e ▸ h
theorem wr_Pi {D : va_G} {cl : List vw_C} {H : Heap} {a : Nat → Nat} {k : Nat → ClassId} {h0 : Nat} {i i2 : Nat → Int32} {l : Nat → Int64} {F : Nat → Nat → Int32} {G : Nat → Nat → Int64} (e : i = i2) (h : va_P D cl (WR a k h0 i2 l F G) H) : va_P D cl (WR a k h0 i l F G) H := by rw [e]; exact h
theorem wr_Pj {D : va_G} {cl : List vw_C} {H : Heap} {a : Nat → Nat} {k : Nat → ClassId} {h0 : Nat} {i : Nat → Int32} {l l2 : Nat → Int64} {F : Nat → Nat → Int32} {G : Nat → Nat → Int64} (e : l = l2) (h : va_P D cl (WR a k h0 i l2 F G) H) : va_P D cl (WR a k h0 i l F G) H := by rw [e]; exact h
theorem wr_PF {D : va_G} {cl : List vw_C} {H : Heap} {a : Nat → Nat} {k : Nat → ClassId} {h0 : Nat} {i : Nat → Int32} {l : Nat → Int64} {F F2 : Nat → Nat → Int32} {G : Nat → Nat → Int64} (e : F = F2) (h : va_P D cl (WR a k h0 i l F2 G) H) : va_P D cl (WR a k h0 i l F G) H := by rw [e]; exact h
theorem wr_PG {D : va_G} {cl : List vw_C} {H : Heap} {a : Nat → Nat} {k : Nat → ClassId} {h0 : Nat} {i : Nat → Int32} {l : Nat → Int64} {F : Nat → Nat → Int32} {G G2 : Nat → Nat → Int64} (e : G = G2) (h : va_P D cl (WR a k h0 i l F G2) H) : va_P D cl (WR a k h0 i l F G) H := by rw [e]; exact h
theorem wr_Di {A : Nat → Prop} {a : Nat → Nat} {k : Nat → ClassId} {h0 : Nat} {i i2 : Nat → Int32} {l : Nat → Int64} {F : Nat → Nat → Int32} {G : Nat → Nat → Int64} (e : i = i2) (h : va_D A (WR a k h0 i2 l F G)) : va_D A (WR a k h0 i l F G) := by rw [e]; exact h
theorem wr_Dj {A : Nat → Prop} {a : Nat → Nat} {k : Nat → ClassId} {h0 : Nat} {i : Nat → Int32} {l l2 : Nat → Int64} {F : Nat → Nat → Int32} {G : Nat → Nat → Int64} (e : l = l2) (h : va_D A (WR a k h0 i l2 F G)) : va_D A (WR a k h0 i l F G) := by rw [e]; exact h
theorem wr_DF {A : Nat → Prop} {a : Nat → Nat} {k : Nat → ClassId} {h0 : Nat} {i : Nat → Int32} {l : Nat → Int64} {F F2 : Nat → Nat → Int32} {G : Nat → Nat → Int64} (e : F = F2) (h : va_D A (WR a k h0 i l F2 G)) : va_D A (WR a k h0 i l F G) := by rw [e]; exact h
theorem wr_DG {A : Nat → Prop} {a : Nat → Nat} {k : Nat → ClassId} {h0 : Nat} {i : Nat → Int32} {l : Nat → Int64} {F : Nat → Nat → Int32} {G G2 : Nat → Nat → Int64} (e : G = G2) (h : va_D A (WR a k h0 i l F G2)) : va_D A (WR a k h0 i l F G) := by rw [e]; exact h
theorem fz_sd {D : va_G} {cl : List vw_C} {H : Heap} {A : Nat → Prop} {w w0 : va_W} (_ : va_P D cl w H) (h : va_D A w0) (e : w0 = w) : va_D A w := e ▸ h
end
section
/-- sets, as they are kept -/
def SeO (f16 f17 : Nat → Int32) (se : Nat) : Prop := ∀ o, o < se → (∃ m, 1 ≤ m ∧ m ≤ 12 ∧ f17 o = nI m) ∧ -999999 ≤ (f16 o).toInt ∧ (f16 o).toInt ≤ 999999
/-- what a name stands for -/
def NkO (f10 f13 : Nat → Int32) (nm se pa va : Nat) : Prop := ∀ k, k < nm → ∃ o, f13 k = nI o ∧ o < 44 ∧ (f10 k = 1 → o < se) ∧ (f10 k = 2 → o < pa) ∧ (f10 k = 3 → o < va)
def OwO (x y : Int32) : Prop := x = -1 ∨ ∃ p q : Nat, x = nI p ∧ y = nI q ∧ p + q ≤ 4000
/-- a binding: one set or two, and where its values lie -/
def BnO (f36 f37 f38 : Nat → Int32) (se b : Nat) : Prop := (∃ o, o < se ∧ f36 b = nI o) ∧ (f37 b = -1 ∨ ∃ o, o < se ∧ f37 b = nI o) ∧ ∃ x, x < 59 ∧ f38 b = nI x
def EnO (f51 : Nat → Int32) : Prop := ∀ b, b < 60 → -1000200 ≤ (f51 b).toInt ∧ (f51 b).toInt ≤ 1000200
theorem EnO.set {f g : Nat → Int32} {k : Nat} (h : EnO f) (e : ∀ q, q ≠ k → g q = f q) (h1 : -1000200 ≤ (g k).toInt ∧ (g k).toInt ≤ 1000200) : EnO g := fun q hq => by
  by_cases e9 : q = k
  · subst e9; exact h1
  · rw [e q e9]; exact h q hq
theorem ne64 {x : Int64} (h : 0 < x.toInt) : ¬ x = 0 := fun e => by
  rw [e] at h; exact absurd h (by decide)
/-- how many numbers a name of pl places (o1, o2) has -/
def memN (f17 : Nat → Int32) (pl o1 o2 : Nat) : Nat := (if pl = 0 then 1 else (f17 o1).toInt.toNat) * (if pl = 2 then (f17 o2).toInt.toNat else 1)
def MemP (f17 : Nat → Int32) (pl o1 o2 mm : Nat) : Prop := mm = memN f17 pl o1 o2
theorem nI_tn {m : Nat} (h : m < 2147483648) : (nI m).toInt.toNat = m := by
  rw [nI_toInt (by omega)]; rfl
theorem MemP.m0 {f17 : Nat → Int32} {pl o1 o2 : Nat} (h : pl = 0) : MemP f17 pl o1 o2 1 := by
  unfold MemP memN
  rw [if_pos h, if_neg (by omega)]
theorem MemP.m1 {f17 : Nat → Int32} {pl o1 o2 m : Nat} (h : pl = 1) (e : f17 o1 = nI m) (hm : m ≤ 12) : MemP f17 pl o1 o2 m := by
  unfold MemP memN
  rw [if_neg (by omega), if_neg (by omega), e, nI_tn (by omega), Nat.mul_one]
theorem MemP.m2 {f17 : Nat → Int32} {pl o1 o2 m n : Nat} (h : pl = 2) (e : f17 o1 = nI m) (hm : m ≤ 12) (e2 : f17 o2 = nI n) (hn : n ≤ 12) : MemP f17 pl o1 o2 (m * n) := by
  unfold MemP memN
  rw [if_neg (by omega), if_pos h, e, e2, nI_tn (by omega), nI_tn (by omega)]
end
section
theorem hd_yX12_declared_RX12 : yX12_declared.cls = RX12 ∧ yX12_declared.cls ≠ "java/lang/invoke/MethodHandle" ∧ yX12_declared.cls ≠ "java/lang/invoke/VarHandle" ∧ (parseMethodDescriptor yX12_declared.desc).map (fun d => d.parameters.length) = some 0 := by decide +kernel
theorem dX12_stepOne_0 : decode cX12_stepOne 0 = .ok (.aload_n 0, 1) := dk_42 (by decide +kernel)
theorem dX12_stepOne_1 : decode cX12_stepOne 1 = .ok (.getfield 641, 3) := dk_180 (by decide +kernel)
theorem dX12_stepOne_4 : decode cX12_stepOne 4 = .ok (.sipush 20000, 3) := dk_17 (by decide +kernel)
theorem dX12_stepOne_7 : decode cX12_stepOne 7 = .ok (.if_icmp .ne 16, 3) := dk_160 (by decide +kernel)
theorem dX12_stepOne_10 : decode cX12_stepOne 10 = .ok (.aload_n 0, 1) := dk_42 (by decide +kernel)
theorem dX12_stepOne_11 : decode cX12_stepOne 11 = .ok (.bipush 11, 2) := dk_16 (by decide +kernel)
theorem dX12_stepOne_13 : decode cX12_stepOne 13 = .ok (.aload_n 0, 1) := dk_42 (by decide +kernel)
theorem dX12_stepOne_14 : decode cX12_stepOne 14 = .ok (.getfield 644, 3) := dk_180 (by decide +kernel)
theorem dX12_stepOne_17 : decode cX12_stepOne 17 = .ok (.invokevirtual 518, 3) := dk_182 (by decide +kernel)
theorem dX12_stepOne_20 : decode cX12_stepOne 20 = .ok (.goto 13, 3) := dk_167 (by decide +kernel)
theorem dX12_stepOne_23 : decode cX12_stepOne 23 = .ok (.aload_n 0, 1) := dk_42 (by decide +kernel)
theorem dX12_stepOne_24 : decode cX12_stepOne 24 = .ok (.dup, 1) := dk_89 (by decide +kernel)
theorem dX12_stepOne_25 : decode cX12_stepOne 25 = .ok (.getfield 641, 3) := dk_180 (by decide +kernel)
theorem dX12_stepOne_28 : decode cX12_stepOne 28 = .ok (.iconst 1, 1) := dk_4 (by decide +kernel)
theorem dX12_stepOne_29 : decode cX12_stepOne 29 = .ok (.iadd, 1) := dk_96 (by decide +kernel)
theorem dX12_stepOne_30 : decode cX12_stepOne 30 = .ok (.putfield 641, 3) := dk_181 (by decide +kernel)
theorem dX12_stepOne_33 : decode cX12_stepOne 33 = .ok (.return_, 1) := dk_177 (by decide +kernel)
def wsRX12_stepOne : List Cond := .code yX12_stepOne cX12_stepOne 1 none :: ([.fieldLink RX12 641 "OptimaWorksModel" "steps" "I", .fieldLink RX12 644 "OptimaWorksModel" "begun" "I"] ++ wsX120 ++ (wsV RX12 518 RX12 yX12_faultAt wsRX12_faultAt))
theorem iwsRX12_stepOne_in12 : ∀ w ∈ wsX120, w ∈ wsRX12_stepOne := fun _ h => List.mem_cons_of_mem _ (List.mem_append_left _ (List.mem_append_right _ h))
theorem gwsRX12_stepOne_0 : GoodIn wsRX12_stepOne (wsV RX12 518 RX12 yX12_faultAt wsRX12_faultAt) := goodIn_sub (fun _ h => List.mem_cons_of_mem _ (List.mem_append_right _ h)) (gdV (by decide +kernel) gdwsRX12_faultAt)
theorem gdwsRX12_stepOne : wsRX12_stepOne.all goodWord = true := gdC rfl (gdA (gdA (by decide +kernel : ([.fieldLink RX12 641 "OptimaWorksModel" "steps" "I", .fieldLink RX12 644 "OptimaWorksModel" "begun" "I"] : List Cond).all goodWord = true) gdwsX120) (gdV (by decide +kernel) gdwsRX12_faultAt))
theorem hm_r_X12_stepOne_0 : (.fieldLink RX12 641 "OptimaWorksModel" "steps" "I" : Cond) ∈ wsRX12_stepOne := by decide +kernel
set_option maxHeartbeats 4000000 in
set_option maxRecDepth 100000 in
/-- stepOne() -/
theorem r_X12_stepOne (l : Launch) (dC : Nat → ClassId) (dI : Nat → Nat → Nat) (a : Nat → Nat) (k : Nat → ClassId) (h0 : Nat) (vi : Nat → Int32) (vj : Nat → Int64) (vF : Nat → Nat → Int32) (vG : Nat → Nat → Int64) (hst0 : 0 ≤ (vi 21).toInt) (sz : Nat) : Met l yX12_stepOne wsRX12_stepOne ({ frames := 1, cells := 0, slots := 0, locals := 22 }) (va_Pc [.ref h0] (fun U => U.heap.size = sz ∧ va_P (dC, dI) vwCl (WR a k h0 vi vj vF vG) U.heap ∧ va_K (dC, dI) vwCl (tX12 k) U ∧ va_D (fun _ => True) (WR a k h0 vi vj vF vG))) (va_Qv (fun (u : (Int32) × (Int32) × (Int32)) => (0 ≤ ((u.1)).toInt) ∧ ((u.1) = vi 21 ∨ 0 < ((u.1)).toInt)) (fun (u : (Int32) × (Int32) × (Int32)) t => va_P (dC, dI) vwCl (WR a k h0 (fT (fT (fT vi 21 (u.1)) 22 (u.2.1)) 82 (u.2.2)) vj vF vG) t.heap ∧ va_D (va_A (WR a k h0 vi vj vF vG) sz) (WR a k h0 (fT (fT (fT vi 21 (u.1)) 22 (u.2.1)) 82 (u.2.2)) vj vF vG)) (va_A (WR a k h0 vi vj vF vG) sz)) 0 0 (va_A (WR a k h0 vi vj vF vG) sz) := by
  refine Met.ofW (cc := cX12_stepOne) (maxL := 1) (ret := none) (by decide) rfl ?_
  intro p e s m args below meth c s₁ B hml hv
  obtain ⟨rfl, hsz, hP, hK, hD0⟩ := hv
  have hx := B.exec
  have hb := B.bytes
  have hr := B.returns
  have hts := atoms_spec (ws := wsRX12_stepOne) B.pre
  have hown : s.vm.findClass RX12 = some m.cls := findClass_of_methodNamed B.named
  have hlocks := B.notSynchronized
  subst hsz
  have hD := hD0.self (sz := s.heap.size)
  generalize hAe : va_A (WR a k h0 vi vj vF vG) s.heap.size = A at hD ⊢
  have hA : ∀ q : Nat, s.heap.size ≤ q → A q := fun q h => by rw [← hAe]; exact Or.inr h
  have hS : va_S A s.heap s.heap [] := va_S.rf
  have hl := lv_entry ([.ref h0]) (n := 1) (Nat.le_of_ble_eq_true rfl)
  rw [lg_entry_eq]
  generalize (lg_sl ([.ref h0]) ++ List.replicate (1 - (lg_sl ([.ref h0])).length) Slot.unset).toArray = ls at hl ⊢
  have hl : lv_has ls 1 [(0, .ref h0)] := hl
  refine lv_aload_n hx hb dX12_stepOne_0 rfl (lv_at hl 0 rfl) ?_
  refine va_get (D := (dC, dI)) (ci := 12) (v := .int (vi 82)) (C := RX12) (T := TX12) (N := 163) (fs := fM (vS a vi vj)) hx hb hts iwsRX12_stepOne_in12 hown hK hP 0 rfl rfl 82 (by decide) (hts _ hm_r_X12_stepOne_0) (fun _ h9 => h9) rfl dX12_stepOne_1 ?_
  refine lv_sipush (v := 20000) hx hb dX12_stepOne_4 (by decide) ?_
  refine lv_icmp_ne (tgt := 23) hx hb dX12_stepOne_7 (by decide) (fun c_7 => ?_) (fun c_7 => ?_)
  · have t_7 : ((vi 82)).toInt ≠ 20000 := toI_ne c_7 rfl (by decide)
    refine lv_aload_n hx hb dX12_stepOne_23 rfl (lv_at hl 0 rfl) ?_
    refine lv_dup hx hb dX12_stepOne_24 rfl ?_
    refine va_get (D := (dC, dI)) (ci := 12) (v := .int (vi 82)) (C := RX12) (T := TX12) (N := 163) (fs := fM (vS a vi vj)) hx hb hts iwsRX12_stepOne_in12 hown hK hP 0 rfl rfl 82 (by decide) (hts _ hm_r_X12_stepOne_0) (fun _ h9 => h9) rfl dX12_stepOne_25 ?_
    refine lv_iconst (v := 1) hx hb dX12_stepOne_28 (by decide) ?_
    refine lv_iadd hx hb dX12_stepOne_29 ?_
    refine va_put (D := (dC, dI)) (ci := 12) (v := .int ((vi 82) + 1)) (ty := .int) (C := RX12) (T := TX12) (N := 163) (fs := fM (vS a vi vj)) hx hb hts iwsRX12_stepOne_in12 tyX12 tyX12_ok nmX12 hown hK hP hD hS 0 rfl rfl 82 (by decide) (hts _ hm_r_X12_stepOne_0) (fun _ h9 => h9) rfl (by decide +kernel) rfl rfl (Nat.le_of_ble_eq_true rfl) dX12_stepOne_30 (fun H locs hP hD hS => ?_)
    have hP : va_P (dC, dI) vwCl (WR a k h0 (fT vi 82 ((vi 82) + 1)) vj vF vG) H := fz_w (WR_i 82 _ rfl) hP
    have hD : va_D A (WR a k h0 (fT vi 82 ((vi 82) + 1)) vj vF vG) := fz_wD (WR_i 82 _ rfl) hD
    refine W.widen (k := 0) (n := 0) (by decide +kernel) (by decide +kernel) ?_
    have e9 : fT (fT (fT vi 21 (vi 21)) 22 (vi 22)) 82 ((vi 82) + 1) = fT vi 82 ((vi 82) + 1) := ch_E vi [(vi 82) + 1] [(82, 1), (22, 0), (21, 0)] [(82, 1)] [] trivial (by decide +kernel)
    have hP := wr_Pi e9 hP
    have hD := wr_Di e9 hD
    clear e9
    exact W.vret hx hb hr (fun t9_ ht hW => ⟨⟨((vi 21), (vi 22), ((vi 82) + 1)), rfl, by (try dsimp only); exact ⟨hst0, Or.inl rfl⟩, by rw [ht]; exact hP, hD⟩, hS.F ht⟩) hS.2.2 dX12_stepOne_33
  · have t_7 : ((vi 82)).toInt = 20000 := toI_nne c_7 rfl (by decide)
    refine lv_aload_n hx hb dX12_stepOne_10 rfl (lv_at hl 0 rfl) ?_
    refine lv_bipush (v := 11) hx hb dX12_stepOne_11 (by decide) ?_
    refine lv_aload_n hx hb dX12_stepOne_13 rfl (lv_at hl 0 rfl) ?_
    refine va_get (D := (dC, dI)) (ci := 12) (v := .int (vi 83)) (C := RX12) (T := TX12) (N := 163) (fs := fM (vS a vi vj)) hx hb hts iwsRX12_stepOne_in12 hown hK hP 0 rfl rfl 83 (by decide) (hts (.fieldLink RX12 644 "OptimaWorksModel" "begun" "I") (by decide +kernel)) (fun _ h9 => h9) rfl dX12_stepOne_14 ?_
    have hFc := allFree hD hS hA
    refine va_callv (va_runV (As := [.int 11, .int (vi 83)]) (rest := []) ⟨hx, hb, hml, hown, hts⟩ (r_X12_faultAt l dC dI a k h0 vi vj vF vG 11 (vi 83) (by first | with_reducible assumption | decide | omega | rfl | assumption) s.heap.size) (cwV 2 hts gwsRX12_stepOne_0 rfl rfl rfl hd_yX12_faultAt_RX12 (by decide +kernel)) (fz_pre (va_recv hK hP (ci := 12) (q0 := 0) rfl rfl) hP hK hD) rfl rfl hl.1 rfl (lv_room (Nat.le_of_ble_eq_true rfl)) dX12_stepOne_17 (by decide +kernel)) hS (fun q _ h => hFc q h) hFc (fun u t9_ H locs ht hvm hw9 hB9 hz1 hk1 hS => ?_)
    revert u hw9 hB9
    refine fz_p2 ?_
    intro s217 p217 hw9 hB9
    try dsimp only at hw9 hB9
    have hP : va_P (dC, dI) vwCl (WR a k h0 (fT (fT vi 21 s217) 22 p217) vj vF vG) H := fz_P ht hB9.1
    have hD := fz_sd hP (hB9.2.weaken (fun _ q _ h => hFc q.1 h)) rfl
    revert hw9
    refine fz_a2 ?_
    intro f17_0 f17_1
    have f17_0 : (0 < (vi 21).toInt ∧ s217 = (vi 21) ∧ p217 = (vi 22)) ∨ (¬ 0 < (vi 21).toInt ∧ s217 = 11 ∧ p217 = (vi 83)) := f17_0
    refine lv_goto (tgt := 33) hx hb dX12_stepOne_20 (by decide) ?_
    refine W.widen (k := 0) (n := 0) (by decide +kernel) (by decide +kernel) ?_
    have e9 : fT (fT (fT vi 21 s217) 22 p217) 82 (vi 82) = fT (fT vi 21 s217) 22 p217 := fT_id _ _ ((fT_ne _ _ (Nat.ne_of_beq_eq_false rfl)).trans (fT_ne _ _ (Nat.ne_of_beq_eq_false rfl)))
    have hP := wr_Pi e9 hP
    have hD := wr_Di e9 hD
    clear e9
    exact W.vret hx hb hr (fun t9_ ht hW => ⟨⟨(s217, p217, (vi 82)), rfl, by (try dsimp only); exact ⟨by omega, Or.inr f17_1⟩, by rw [ht]; exact hP, hD⟩, hS.F ht⟩) hS.2.2 dX12_stepOne_33
theorem dX12_call_0 : decode cX12_call 0 = .ok (.aload_n 0, 1) := dk_42 (by decide +kernel)
theorem dX12_call_1 : decode cX12_call 1 = .ok (.getfield 179, 3) := dk_180 (by decide +kernel)
theorem dX12_call_4 : decode cX12_call 4 = .ok (.aload_n 0, 1) := dk_42 (by decide +kernel)
theorem dX12_call_5 : decode cX12_call 5 = .ok (.getfield 647, 3) := dk_180 (by decide +kernel)
theorem dX12_call_8 : decode cX12_call 8 = .ok (.iload_n 1, 1) := dk_27 (by decide +kernel)
theorem dX12_call_9 : decode cX12_call 9 = .ok (.iastore, 1) := dk_79 (by decide +kernel)
theorem dX12_call_10 : decode cX12_call 10 = .ok (.aload_n 0, 1) := dk_42 (by decide +kernel)
theorem dX12_call_11 : decode cX12_call 11 = .ok (.getfield 182, 3) := dk_180 (by decide +kernel)
theorem dX12_call_14 : decode cX12_call 14 = .ok (.aload_n 0, 1) := dk_42 (by decide +kernel)
theorem dX12_call_15 : decode cX12_call 15 = .ok (.getfield 647, 3) := dk_180 (by decide +kernel)
theorem dX12_call_18 : decode cX12_call 18 = .ok (.iconst 0, 1) := dk_3 (by decide +kernel)
theorem dX12_call_19 : decode cX12_call 19 = .ok (.iastore, 1) := dk_79 (by decide +kernel)
theorem dX12_call_20 : decode cX12_call 20 = .ok (.aload_n 0, 1) := dk_42 (by decide +kernel)
theorem dX12_call_21 : decode cX12_call 21 = .ok (.dup, 1) := dk_89 (by decide +kernel)
theorem dX12_call_22 : decode cX12_call 22 = .ok (.getfield 647, 3) := dk_180 (by decide +kernel)
theorem dX12_call_25 : decode cX12_call 25 = .ok (.iconst 1, 1) := dk_4 (by decide +kernel)
theorem dX12_call_26 : decode cX12_call 26 = .ok (.iadd, 1) := dk_96 (by decide +kernel)
theorem dX12_call_27 : decode cX12_call 27 = .ok (.putfield 647, 3) := dk_181 (by decide +kernel)
theorem dX12_call_30 : decode cX12_call 30 = .ok (.return_, 1) := dk_177 (by decide +kernel)
def wsRX12_call : List Cond := .code yX12_call cX12_call 2 none :: ([.fieldLink RX12 179 "OptimaWorksModel" "frame" "[I", .fieldLink RX12 647 "OptimaWorksModel" "framed" "I", .fieldLink RX12 182 "OptimaWorksModel" "stage" "[I"] ++ wsX120)
theorem iwsRX12_call_in12 : ∀ w ∈ wsX120, w ∈ wsRX12_call := fun _ h => List.mem_cons_of_mem _ (List.mem_append_right _ h)
theorem gdwsRX12_call : wsRX12_call.all goodWord = true := gdC rfl (gdA (by decide +kernel : ([.fieldLink RX12 179 "OptimaWorksModel" "frame" "[I", .fieldLink RX12 647 "OptimaWorksModel" "framed" "I", .fieldLink RX12 182 "OptimaWorksModel" "stage" "[I"] : List Cond).all goodWord = true) gdwsX120)
theorem hm_r_X12_call_0 : (.fieldLink RX12 647 "OptimaWorksModel" "framed" "I" : Cond) ∈ wsRX12_call := by decide +kernel
set_option maxHeartbeats 4000000 in
set_option maxRecDepth 100000 in
/-- call(n) -/
theorem r_X12_call (l : Launch) (dC : Nat → ClassId) (dI : Nat → Nat → Nat) (a : Nat → Nat) (k : Nat → ClassId) (h0 : Nat) (vi : Nat → Int32) (vj : Nat → Int64) (vF : Nat → Nat → Int32) (vG : Nat → Nat → Int64) (nv : Int32) (fr : Nat) (hfr9 : vi 89 = nI fr) (hfr4 : fr < 4300) (sz : Nat) : Met l yX12_call wsRX12_call ({ frames := 0, cells := 0, slots := 0, locals := 0 }) (va_Pc [.ref h0, .int nv] (fun U => U.heap.size = sz ∧ va_P (dC, dI) vwCl (WR a k h0 vi vj vF vG) U.heap ∧ va_K (dC, dI) vwCl (tX12 k) U ∧ va_D (fun _ => True) (WR a k h0 vi vj vF vG))) (va_Qv (fun (u : Unit) => True) (fun (u : Unit) t => va_P (dC, dI) vwCl (WR a k h0 (fT vi 89 (nI (fr + 1))) vj (fT (fT vF 52 (upd (vF 52) (nI fr).toNatClampNeg nv)) 53 (upd (vF 53) (nI fr).toNatClampNeg 0)) vG) t.heap ∧ va_D (va_A (WR a k h0 vi vj vF vG) sz) (WR a k h0 (fT vi 89 (nI (fr + 1))) vj (fT (fT vF 52 (upd (vF 52) (nI fr).toNatClampNeg nv)) 53 (upd (vF 53) (nI fr).toNatClampNeg 0)) vG)) (va_A (WR a k h0 vi vj vF vG) sz)) 0 0 (va_A (WR a k h0 vi vj vF vG) sz) := by
  refine Met.ofW (cc := cX12_call) (maxL := 2) (ret := none) (by decide) rfl ?_
  intro p e s m args below meth c s₁ B hml hv
  obtain ⟨rfl, hsz, hP, hK, hD0⟩ := hv
  have hx := B.exec
  have hb := B.bytes
  have hr := B.returns
  have hts := atoms_spec (ws := wsRX12_call) B.pre
  have hown : s.vm.findClass RX12 = some m.cls := findClass_of_methodNamed B.named
  have hlocks := B.notSynchronized
  subst hsz
  have hD := hD0.self (sz := s.heap.size)
  generalize hAe : va_A (WR a k h0 vi vj vF vG) s.heap.size = A at hD ⊢
  have hA : ∀ q : Nat, s.heap.size ≤ q → A q := fun q h => by rw [← hAe]; exact Or.inr h
  have hS : va_S A s.heap s.heap [] := va_S.rf
  have hl := lv_entry ([.ref h0, .int nv]) (n := 2) (Nat.le_of_ble_eq_true rfl)
  rw [lg_entry_eq]
  generalize (lg_sl ([.ref h0, .int nv]) ++ List.replicate (2 - (lg_sl ([.ref h0, .int nv])).length) Slot.unset).toArray = ls at hl ⊢
  have hl : lv_has ls 2 [(0, .ref h0), (1, .int nv)] := hl
  refine lv_aload_n hx hb dX12_call_0 rfl (lv_at hl 0 rfl) ?_
  refine va_get (D := (dC, dI)) (ci := 12) (v := .ref (a 52)) (C := RX12) (T := TX12) (N := 163) (fs := fM (vS a vi vj)) hx hb hts iwsRX12_call_in12 hown hK hP 0 rfl rfl 85 (by decide) (hts (.fieldLink RX12 179 "OptimaWorksModel" "frame" "[I") (by decide +kernel)) (fun _ h9 => h9) rfl dX12_call_1 ?_
  refine lv_aload_n hx hb dX12_call_4 rfl (lv_at hl 0 rfl) ?_
  refine va_get (D := (dC, dI)) (ci := 12) (v := .int (vi 89)) (C := RX12) (T := TX12) (N := 163) (fs := fM (vS a vi vj)) hx hb hts iwsRX12_call_in12 hown hK hP 0 rfl rfl 89 (by decide) (hts _ hm_r_X12_call_0) (fun _ h9 => h9) rfl dX12_call_5 ?_
  refine lv_topi (fun y1 hy1 => ?_)
  obtain rfl : (nI fr) = y1 := (hy1.trans (hfr9)).symm
  refine lv_iload_n hx hb dX12_call_8 rfl (lv_at hl 1 rfl) ?_
  refine va_iast (cA := k 52) (n := 4300) (f := (vF 52)) hx hb hK hP hD hS 53 52 (WR_get 52 (by decide)) (TR_get 52 (by decide)) (vp_in_nI (show fr < 4300 by omega) (by omega)) dX12_call_9 (fun H locs hP hD hS => ?_)
  have hP : va_P (dC, dI) vwCl (WR a k h0 vi vj (fT vF 52 (upd (vF 52) ((nI fr)).toNatClampNeg nv)) vG) H := fz_w (WR_F 52 (by decide) _ rfl) hP
  have hD : va_D A (WR a k h0 vi vj (fT vF 52 (upd (vF 52) ((nI fr)).toNatClampNeg nv)) vG) := fz_wD (WR_F 52 (by decide) _ rfl) hD
  refine lv_aload_n hx hb dX12_call_10 rfl (lv_at hl 0 rfl) ?_
  refine va_get (D := (dC, dI)) (ci := 12) (v := .ref (a 53)) (C := RX12) (T := TX12) (N := 163) (fs := fM (vS a vi vj)) hx hb hts iwsRX12_call_in12 hown hK hP 0 rfl rfl 86 (by decide) (hts (.fieldLink RX12 182 "OptimaWorksModel" "stage" "[I") (by decide +kernel)) (fun _ h9 => h9) rfl dX12_call_11 ?_
  refine lv_aload_n hx hb dX12_call_14 rfl (lv_at hl 0 rfl) ?_
  refine va_get (D := (dC, dI)) (ci := 12) (v := .int (vi 89)) (C := RX12) (T := TX12) (N := 163) (fs := fM (vS a vi vj)) hx hb hts iwsRX12_call_in12 hown hK hP 0 rfl rfl 89 (by decide) (hts _ hm_r_X12_call_0) (fun _ h9 => h9) rfl dX12_call_15 ?_
  refine lv_topi (fun y2 hy2 => ?_)
  obtain rfl : (nI fr) = y2 := (hy2.trans (hfr9)).symm
  refine lv_iconst (v := 0) hx hb dX12_call_18 (by decide) ?_
  refine va_iast (cA := k 53) (n := 4300) (f := (vF 53)) hx hb hK hP hD hS 54 53 (WR_get 53 (by decide)) (TR_get 53 (by decide)) (vp_in_nI (show fr < 4300 by omega) (by omega)) dX12_call_19 (fun H locs hP hD hS => ?_)
  have hP : va_P (dC, dI) vwCl (WR a k h0 vi vj (fT (fT vF 52 (upd (vF 52) ((nI fr)).toNatClampNeg nv)) 53 (upd (vF 53) ((nI fr)).toNatClampNeg 0)) vG) H := fz_w (WR_F 53 (by decide) _ rfl) hP
  have hD : va_D A (WR a k h0 vi vj (fT (fT vF 52 (upd (vF 52) ((nI fr)).toNatClampNeg nv)) 53 (upd (vF 53) ((nI fr)).toNatClampNeg 0)) vG) := fz_wD (WR_F 53 (by decide) _ rfl) hD
  refine lv_aload_n hx hb dX12_call_20 rfl (lv_at hl 0 rfl) ?_
  refine lv_dup hx hb dX12_call_21 rfl ?_
  refine va_get (D := (dC, dI)) (ci := 12) (v := .int (vi 89)) (C := RX12) (T := TX12) (N := 163) (fs := fM (vS a vi vj)) hx hb hts iwsRX12_call_in12 hown hK hP 0 rfl rfl 89 (by decide) (hts _ hm_r_X12_call_0) (fun _ h9 => h9) rfl dX12_call_22 ?_
  refine lv_topi (fun y3 hy3 => ?_)
  obtain rfl : (nI fr) = y3 := (hy3.trans (hfr9)).symm
  refine lv_iconst (v := 1) hx hb dX12_call_25 (by decide) ?_
  refine lv_iadd hx hb dX12_call_26 ?_
  refine lv_topi (fun y4 hy4 => ?_)
  obtain rfl : (nI (fr + 1)) = y4 := (hy4.trans (nI_add fr 1)).symm
  refine va_put (D := (dC, dI)) (ci := 12) (v := .int (nI (fr + 1))) (ty := .int) (C := RX12) (T := TX12) (N := 163) (fs := fM (vS a vi vj)) hx hb hts iwsRX12_call_in12 tyX12 tyX12_ok nmX12 hown hK hP hD hS 0 rfl rfl 89 (by decide) (hts _ hm_r_X12_call_0) (fun _ h9 => h9) rfl (by decide +kernel) rfl rfl (Nat.le_of_ble_eq_true rfl) dX12_call_27 (fun H locs hP hD hS => ?_)
  have hP : va_P (dC, dI) vwCl (WR a k h0 (fT vi 89 (nI (fr + 1))) vj (fT (fT vF 52 (upd (vF 52) ((nI fr)).toNatClampNeg nv)) 53 (upd (vF 53) ((nI fr)).toNatClampNeg 0)) vG) H := fz_w (WR_i 89 _ rfl) hP
  have hD : va_D A (WR a k h0 (fT vi 89 (nI (fr + 1))) vj (fT (fT vF 52 (upd (vF 52) ((nI fr)).toNatClampNeg nv)) 53 (upd (vF 53) ((nI fr)).toNatClampNeg 0)) vG) := fz_wD (WR_i 89 _ rfl) hD
  refine W.widen (k := 0) (n := 0) (by decide +kernel) (by decide +kernel) ?_
  have e9 : fT (fT vF 52 (upd (vF 52) (nI fr).toNatClampNeg nv)) 53 (upd (vF 53) (nI fr).toNatClampNeg 0) = fT (fT vF 52 (upd (vF 52) ((nI fr)).toNatClampNeg nv)) 53 (upd (vF 53) ((nI fr)).toNatClampNeg 0) := ch_E vF [upd (vF 52) (nI fr).toNatClampNeg nv, upd (vF 53) (nI fr).toNatClampNeg 0, upd (vF 52) ((nI fr)).toNatClampNeg nv, upd (vF 53) ((nI fr)).toNatClampNeg 0] [(53, 2), (52, 1)] [(53, 4), (52, 3)] [52, 53] ⟨show upd (vF 52) (nI fr).toNatClampNeg nv = upd (vF 52) ((nI fr)).toNatClampNeg nv from (by first | with_reducible rfl | with_reducible assumption | (symm; with_reducible assumption) | rfl | assumption | (symm; assumption) | (subst_vars; rfl)), show upd (vF 53) (nI fr).toNatClampNeg 0 = upd (vF 53) ((nI fr)).toNatClampNeg 0 from (by first | with_reducible rfl | with_reducible assumption | (symm; with_reducible assumption) | rfl | assumption | (symm; assumption) | (subst_vars; rfl)), trivial⟩ (by decide +kernel)
  have hP := wr_PF e9 hP
  have hD := wr_DF e9 hD
  clear e9
  exact W.vret hx hb hr (fun t9_ ht hW => ⟨⟨(), rfl, trivial, by rw [ht]; exact hP, hD⟩, hS.F ht⟩) hS.2.2 dX12_call_30
theorem dX12_membersOf_0 : decode cX12_membersOf 0 = .ok (.aload_n 0, 1) := dk_42 (by decide +kernel)
theorem dX12_membersOf_1 : decode cX12_membersOf 1 = .ok (.getfield 74, 3) := dk_180 (by decide +kernel)
theorem dX12_membersOf_4 : decode cX12_membersOf 4 = .ok (.aload_n 0, 1) := dk_42 (by decide +kernel)
theorem dX12_membersOf_5 : decode cX12_membersOf 5 = .ok (.getfield 131, 3) := dk_180 (by decide +kernel)
theorem dX12_membersOf_8 : decode cX12_membersOf 8 = .ok (.iload_n 1, 1) := dk_27 (by decide +kernel)
theorem dX12_membersOf_9 : decode cX12_membersOf 9 = .ok (.iaload, 1) := dk_46 (by decide +kernel)
theorem dX12_membersOf_10 : decode cX12_membersOf 10 = .ok (.iaload, 1) := dk_46 (by decide +kernel)
theorem dX12_membersOf_11 : decode cX12_membersOf 11 = .ok (.aload_n 0, 1) := dk_42 (by decide +kernel)
theorem dX12_membersOf_12 : decode cX12_membersOf 12 = .ok (.getfield 134, 3) := dk_180 (by decide +kernel)
theorem dX12_membersOf_15 : decode cX12_membersOf 15 = .ok (.iload_n 1, 1) := dk_27 (by decide +kernel)
theorem dX12_membersOf_16 : decode cX12_membersOf 16 = .ok (.iaload, 1) := dk_46 (by decide +kernel)
theorem dX12_membersOf_17 : decode cX12_membersOf 17 = .ok (.iconst (-1), 1) := dk_2 (by decide +kernel)
theorem dX12_membersOf_18 : decode cX12_membersOf 18 = .ok (.if_icmp .ne 7, 3) := dk_160 (by decide +kernel)
theorem dX12_membersOf_21 : decode cX12_membersOf 21 = .ok (.iconst 1, 1) := dk_4 (by decide +kernel)
theorem dX12_membersOf_22 : decode cX12_membersOf 22 = .ok (.goto 14, 3) := dk_167 (by decide +kernel)
theorem dX12_membersOf_25 : decode cX12_membersOf 25 = .ok (.aload_n 0, 1) := dk_42 (by decide +kernel)
theorem dX12_membersOf_26 : decode cX12_membersOf 26 = .ok (.getfield 74, 3) := dk_180 (by decide +kernel)
theorem dX12_membersOf_29 : decode cX12_membersOf 29 = .ok (.aload_n 0, 1) := dk_42 (by decide +kernel)
theorem dX12_membersOf_30 : decode cX12_membersOf 30 = .ok (.getfield 134, 3) := dk_180 (by decide +kernel)
theorem dX12_membersOf_33 : decode cX12_membersOf 33 = .ok (.iload_n 1, 1) := dk_27 (by decide +kernel)
theorem dX12_membersOf_34 : decode cX12_membersOf 34 = .ok (.iaload, 1) := dk_46 (by decide +kernel)
theorem dX12_membersOf_35 : decode cX12_membersOf 35 = .ok (.iaload, 1) := dk_46 (by decide +kernel)
theorem dX12_membersOf_36 : decode cX12_membersOf 36 = .ok (.imul, 1) := dk_104 (by decide +kernel)
theorem dX12_membersOf_37 : decode cX12_membersOf 37 = .ok (.ireturn, 1) := dk_172 (by decide +kernel)
def wsRX12_membersOf : List Cond := .code yX12_membersOf cX12_membersOf 2 (some .int) :: ([.fieldLink RX12 74 "OptimaWorksModel" "setMany" "[I", .fieldLink RX12 131 "OptimaWorksModel" "bindOne" "[I", .fieldLink RX12 134 "OptimaWorksModel" "bindTwo" "[I"] ++ wsX120)
theorem iwsRX12_membersOf_in12 : ∀ w ∈ wsX120, w ∈ wsRX12_membersOf := fun _ h => List.mem_cons_of_mem _ (List.mem_append_right _ h)
theorem gdwsRX12_membersOf : wsRX12_membersOf.all goodWord = true := gdC rfl (gdA (by decide +kernel : ([.fieldLink RX12 74 "OptimaWorksModel" "setMany" "[I", .fieldLink RX12 131 "OptimaWorksModel" "bindOne" "[I", .fieldLink RX12 134 "OptimaWorksModel" "bindTwo" "[I"] : List Cond).all goodWord = true) gdwsX120)
theorem hm_r_X12_membersOf_0 : (.fieldLink RX12 74 "OptimaWorksModel" "setMany" "[I" : Cond) ∈ wsRX12_membersOf := by decide +kernel
theorem hm_r_X12_membersOf_1 : (.fieldLink RX12 134 "OptimaWorksModel" "bindTwo" "[I" : Cond) ∈ wsRX12_membersOf := by decide +kernel
set_option maxHeartbeats 4000000 in
set_option maxRecDepth 100000 in
/-- membersOf(b) -/
theorem r_X12_membersOf (l : Launch) (dC : Nat → ClassId) (dI : Nat → Nat → Nat) (a : Nat → Nat) (k : Nat → ClassId) (h0 : Nat) (vi : Nat → Int32) (vj : Nat → Int64) (vF : Nat → Nat → Int32) (vG : Nat → Nat → Int64) (bN : Nat) (se : Nat) (hbN : bN < 900) (hBn : BnO (vF 36) (vF 37) (vF 38) se bN) (hse44 : se ≤ 44) (hSe : SeO (vF 16) (vF 17) se) (sz : Nat) : Met l yX12_membersOf wsRX12_membersOf ({ frames := 0, cells := 0, slots := 0, locals := 0 }) (va_Pc [.ref h0, .int (nI bN)] (fun U => U.heap.size = sz ∧ va_P (dC, dI) vwCl (WR a k h0 vi vj vF vG) U.heap ∧ va_K (dC, dI) vwCl (tX12 k) U ∧ va_D (fun _ => True) (WR a k h0 vi vj vF vG))) (va_Qi (fun (r : Int32) (u : Nat) => r = (nI u) ∧ (1 ≤ u ∧ u ≤ 144)) (fun (u : Nat) t => va_P (dC, dI) vwCl (WR a k h0 vi vj vF vG) t.heap ∧ va_D (va_A (WR a k h0 vi vj vF vG) sz) (WR a k h0 vi vj vF vG)) (va_A (WR a k h0 vi vj vF vG) sz)) 0 0 (va_A (WR a k h0 vi vj vF vG) sz) := by
  refine Met.ofW (cc := cX12_membersOf) (maxL := 2) (ret := (some .int)) (by decide) rfl ?_
  intro p e s m args below meth c s₁ B hml hv
  obtain ⟨rfl, hsz, hP, hK, hD0⟩ := hv
  have hx := B.exec
  have hb := B.bytes
  have hr := B.returns
  have hts := atoms_spec (ws := wsRX12_membersOf) B.pre
  have hown : s.vm.findClass RX12 = some m.cls := findClass_of_methodNamed B.named
  have hlocks := B.notSynchronized
  subst hsz
  have hD := hD0.self (sz := s.heap.size)
  generalize hAe : va_A (WR a k h0 vi vj vF vG) s.heap.size = A at hD ⊢
  have hA : ∀ q : Nat, s.heap.size ≤ q → A q := fun q h => by rw [← hAe]; exact Or.inr h
  have hS : va_S A s.heap s.heap [] := va_S.rf
  have hl := lv_entry ([.ref h0, .int (nI bN)]) (n := 2) (Nat.le_of_ble_eq_true rfl)
  rw [lg_entry_eq]
  generalize (lg_sl ([.ref h0, .int (nI bN)]) ++ List.replicate (2 - (lg_sl ([.ref h0, .int (nI bN)])).length) Slot.unset).toArray = ls at hl ⊢
  have hl : lv_has ls 2 [(0, .ref h0), (1, .int (nI bN))] := hl
  obtain ⟨⟨o1, ho1, eo1⟩, hb2, xB, hxB, exB⟩ := hBn
  obtain ⟨⟨m1, hm1, hm2, em1⟩, hl1⟩ := hSe o1 ho1
  refine lv_aload_n hx hb dX12_membersOf_0 rfl (lv_at hl 0 rfl) ?_
  refine va_get (D := (dC, dI)) (ci := 12) (v := .ref (a 17)) (C := RX12) (T := TX12) (N := 163) (fs := fM (vS a vi vj)) hx hb hts iwsRX12_membersOf_in12 hown hK hP 0 rfl rfl 40 (by decide) (hts _ hm_r_X12_membersOf_0) (fun _ h9 => h9) rfl dX12_membersOf_1 ?_
  refine lv_aload_n hx hb dX12_membersOf_4 rfl (lv_at hl 0 rfl) ?_
  refine va_get (D := (dC, dI)) (ci := 12) (v := .ref (a 36)) (C := RX12) (T := TX12) (N := 163) (fs := fM (vS a vi vj)) hx hb hts iwsRX12_membersOf_in12 hown hK hP 0 rfl rfl 61 (by decide) (hts (.fieldLink RX12 131 "OptimaWorksModel" "bindOne" "[I") (by decide +kernel)) (fun _ h9 => h9) rfl dX12_membersOf_5 ?_
  refine lv_iload_n hx hb dX12_membersOf_8 rfl (lv_at hl 1 rfl) ?_
  refine va_iald (cA := k 36) (n := 900) (f := (vF 36)) hx hb hK hP 37 36 (WR_get 36 (by decide)) (TR_get 36 (by decide)) (vp_in_nI (show bN < 900 by omega) (by omega)) dX12_membersOf_9 ?_
  refine lv_topi (fun y1 hy1 => ?_)
  obtain rfl : ((vF 36) bN) = y1 := (hy1.trans (by rw [nI_clamp (by omega)])).symm
  refine lv_topi (fun y2 hy2 => ?_)
  obtain rfl : (nI o1) = y2 := (hy2.trans (eo1)).symm
  refine va_iald (cA := k 17) (n := 44) (f := (vF 17)) hx hb hK hP 18 17 (WR_get 17 (by decide)) (TR_get 17 (by decide)) (vp_in_nI (show o1 < 44 by omega) (by omega)) dX12_membersOf_10 ?_
  refine lv_topi (fun y3 hy3 => ?_)
  obtain rfl : ((vF 17) o1) = y3 := (hy3.trans (by rw [nI_clamp (by omega)])).symm
  refine lv_topi (fun y4 hy4 => ?_)
  obtain rfl : (nI m1) = y4 := (hy4.trans (em1)).symm
  refine lv_aload_n hx hb dX12_membersOf_11 rfl (lv_at hl 0 rfl) ?_
  refine va_get (D := (dC, dI)) (ci := 12) (v := .ref (a 37)) (C := RX12) (T := TX12) (N := 163) (fs := fM (vS a vi vj)) hx hb hts iwsRX12_membersOf_in12 hown hK hP 0 rfl rfl 62 (by decide) (hts _ hm_r_X12_membersOf_1) (fun _ h9 => h9) rfl dX12_membersOf_12 ?_
  refine lv_iload_n hx hb dX12_membersOf_15 rfl (lv_at hl 1 rfl) ?_
  refine va_iald (cA := k 37) (n := 900) (f := (vF 37)) hx hb hK hP 38 37 (WR_get 37 (by decide)) (TR_get 37 (by decide)) (vp_in_nI (show bN < 900 by omega) (by omega)) dX12_membersOf_16 ?_
  refine lv_topi (fun y5 hy5 => ?_)
  obtain rfl : ((vF 37) bN) = y5 := (hy5.trans (by rw [nI_clamp (by omega)])).symm
  refine lv_iconst (v := (-1)) hx hb dX12_membersOf_17 (by decide) ?_
  refine lv_icmp_ne (tgt := 25) hx hb dX12_membersOf_18 (by decide) (fun c_18 => ?_) (fun c_18 => ?_)
  · have t_18 : (((vF 37) bN)).toInt ≠ -1 := toI_ne c_18 rfl (by decide)
    obtain ⟨o2, ho2, eo2⟩ := hb2.resolve_left c_18
    obtain ⟨⟨m2, hn1, hn2, em2⟩, hl2⟩ := hSe o2 ho2
    refine lv_aload_n hx hb dX12_membersOf_25 rfl (lv_at hl 0 rfl) ?_
    refine va_get (D := (dC, dI)) (ci := 12) (v := .ref (a 17)) (C := RX12) (T := TX12) (N := 163) (fs := fM (vS a vi vj)) hx hb hts iwsRX12_membersOf_in12 hown hK hP 0 rfl rfl 40 (by decide) (hts _ hm_r_X12_membersOf_0) (fun _ h9 => h9) rfl dX12_membersOf_26 ?_
    refine lv_aload_n hx hb dX12_membersOf_29 rfl (lv_at hl 0 rfl) ?_
    refine va_get (D := (dC, dI)) (ci := 12) (v := .ref (a 37)) (C := RX12) (T := TX12) (N := 163) (fs := fM (vS a vi vj)) hx hb hts iwsRX12_membersOf_in12 hown hK hP 0 rfl rfl 62 (by decide) (hts _ hm_r_X12_membersOf_1) (fun _ h9 => h9) rfl dX12_membersOf_30 ?_
    refine lv_iload_n hx hb dX12_membersOf_33 rfl (lv_at hl 1 rfl) ?_
    refine va_iald (cA := k 37) (n := 900) (f := (vF 37)) hx hb hK hP 38 37 (WR_get 37 (by decide)) (TR_get 37 (by decide)) (vp_in_nI (show bN < 900 by omega) (by omega)) dX12_membersOf_34 ?_
    refine lv_topi (fun y6 hy6 => ?_)
    obtain rfl : ((vF 37) bN) = y6 := (hy6.trans (by rw [nI_clamp (by omega)])).symm
    refine lv_topi (fun y7 hy7 => ?_)
    obtain rfl : (nI o2) = y7 := (hy7.trans (eo2)).symm
    refine va_iald (cA := k 17) (n := 44) (f := (vF 17)) hx hb hK hP 18 17 (WR_get 17 (by decide)) (TR_get 17 (by decide)) (vp_in_nI (show o2 < 44 by omega) (by omega)) dX12_membersOf_35 ?_
    refine lv_topi (fun y8 hy8 => ?_)
    obtain rfl : ((vF 17) o2) = y8 := (hy8.trans (by rw [nI_clamp (by omega)])).symm
    refine lv_topi (fun y9 hy9 => ?_)
    obtain rfl : (nI m2) = y9 := (hy9.trans (em2)).symm
    refine lv_imul hx hb dX12_membersOf_36 ?_
    refine lv_topi (fun y10 hy10 => ?_)
    obtain rfl : (nI (m1 * m2)) = y10 := (hy10.trans (pk_mul m1 m2)).symm
    refine W.widen (k := 0) (n := 0) (by decide +kernel) (by decide +kernel) ?_
    exact W.iret (v := (nI (m1 * m2))) hx hb hr (fun t9_ ht hW => ⟨⟨(nI (m1 * m2)), (m1 * m2), rfl, by (try dsimp only); exact ⟨rfl, by (have h1 : 1 * 1 ≤ m1 * m2 := Nat.mul_le_mul hm1 hn1); (have h2 : m1 * m2 ≤ 12 * 12 := Nat.mul_le_mul hm2 hn2); omega⟩, by rw [ht]; exact hP, hD⟩, hS.F ht⟩) hS.2.2 dX12_membersOf_37
  · have t_18 : (((vF 37) bN)).toInt = -1 := toI_nne c_18 rfl (by decide)
    refine lv_iconst (v := 1) hx hb dX12_membersOf_21 (by decide) ?_
    refine lv_goto (tgt := 36) hx hb dX12_membersOf_22 (by decide) ?_
    refine lv_imul hx hb dX12_membersOf_36 ?_
    refine lv_topi (fun y11 hy11 => ?_)
    obtain rfl : (nI (m1 * 1)) = y11 := (hy11.trans (pk_mul m1 1)).symm
    refine W.widen (k := 0) (n := 0) (by decide +kernel) (by decide +kernel) ?_
    exact W.iret (v := (nI (m1 * 1))) hx hb hr (fun t9_ ht hW => ⟨⟨(nI (m1 * 1)), (m1 * 1), rfl, by (try dsimp only); exact ⟨rfl, by omega⟩, by rw [ht]; exact hP, hD⟩, hS.F ht⟩) hS.2.2 dX12_membersOf_37
theorem dX12_bind_0 : decode cX12_bind 0 = .ok (.aload_n 0, 1) := dk_42 (by decide +kernel)
theorem dX12_bind_1 : decode cX12_bind 1 = .ok (.getfield 134, 3) := dk_180 (by decide +kernel)
theorem dX12_bind_4 : decode cX12_bind 4 = .ok (.iload_n 1, 1) := dk_27 (by decide +kernel)
theorem dX12_bind_5 : decode cX12_bind 5 = .ok (.iaload, 1) := dk_46 (by decide +kernel)
theorem dX12_bind_6 : decode cX12_bind 6 = .ok (.iconst (-1), 1) := dk_2 (by decide +kernel)
theorem dX12_bind_7 : decode cX12_bind 7 = .ok (.if_icmp .ne 7, 3) := dk_160 (by decide +kernel)
theorem dX12_bind_10 : decode cX12_bind 10 = .ok (.iconst 1, 1) := dk_4 (by decide +kernel)
theorem dX12_bind_11 : decode cX12_bind 11 = .ok (.goto 14, 3) := dk_167 (by decide +kernel)
theorem dX12_bind_14 : decode cX12_bind 14 = .ok (.aload_n 0, 1) := dk_42 (by decide +kernel)
theorem dX12_bind_15 : decode cX12_bind 15 = .ok (.getfield 74, 3) := dk_180 (by decide +kernel)
theorem dX12_bind_18 : decode cX12_bind 18 = .ok (.aload_n 0, 1) := dk_42 (by decide +kernel)
theorem dX12_bind_19 : decode cX12_bind 19 = .ok (.getfield 134, 3) := dk_180 (by decide +kernel)
theorem dX12_bind_22 : decode cX12_bind 22 = .ok (.iload_n 1, 1) := dk_27 (by decide +kernel)
theorem dX12_bind_23 : decode cX12_bind 23 = .ok (.iaload, 1) := dk_46 (by decide +kernel)
theorem dX12_bind_24 : decode cX12_bind 24 = .ok (.iaload, 1) := dk_46 (by decide +kernel)
theorem dX12_bind_25 : decode cX12_bind 25 = .ok (.istore_n 3, 1) := dk_62 (by decide +kernel)
theorem dX12_bind_26 : decode cX12_bind 26 = .ok (.aload_n 0, 1) := dk_42 (by decide +kernel)
theorem dX12_bind_27 : decode cX12_bind 27 = .ok (.getfield 176, 3) := dk_180 (by decide +kernel)
theorem dX12_bind_30 : decode cX12_bind 30 = .ok (.aload_n 0, 1) := dk_42 (by decide +kernel)
theorem dX12_bind_31 : decode cX12_bind 31 = .ok (.getfield 137, 3) := dk_180 (by decide +kernel)
theorem dX12_bind_34 : decode cX12_bind 34 = .ok (.iload_n 1, 1) := dk_27 (by decide +kernel)
theorem dX12_bind_35 : decode cX12_bind 35 = .ok (.iaload, 1) := dk_46 (by decide +kernel)
theorem dX12_bind_36 : decode cX12_bind 36 = .ok (.aload_n 0, 1) := dk_42 (by decide +kernel)
theorem dX12_bind_37 : decode cX12_bind 37 = .ok (.getfield 71, 3) := dk_180 (by decide +kernel)
theorem dX12_bind_40 : decode cX12_bind 40 = .ok (.aload_n 0, 1) := dk_42 (by decide +kernel)
theorem dX12_bind_41 : decode cX12_bind 41 = .ok (.getfield 131, 3) := dk_180 (by decide +kernel)
theorem dX12_bind_44 : decode cX12_bind 44 = .ok (.iload_n 1, 1) := dk_27 (by decide +kernel)
theorem dX12_bind_45 : decode cX12_bind 45 = .ok (.iaload, 1) := dk_46 (by decide +kernel)
theorem dX12_bind_46 : decode cX12_bind 46 = .ok (.iaload, 1) := dk_46 (by decide +kernel)
theorem dX12_bind_47 : decode cX12_bind 47 = .ok (.iload_n 2, 1) := dk_28 (by decide +kernel)
theorem dX12_bind_48 : decode cX12_bind 48 = .ok (.iload_n 3, 1) := dk_29 (by decide +kernel)
theorem dX12_bind_49 : decode cX12_bind 49 = .ok (.idiv, 1) := dk_108 (by decide +kernel)
theorem dX12_bind_50 : decode cX12_bind 50 = .ok (.iadd, 1) := dk_96 (by decide +kernel)
theorem dX12_bind_51 : decode cX12_bind 51 = .ok (.iastore, 1) := dk_79 (by decide +kernel)
theorem dX12_bind_52 : decode cX12_bind 52 = .ok (.aload_n 0, 1) := dk_42 (by decide +kernel)
theorem dX12_bind_53 : decode cX12_bind 53 = .ok (.getfield 134, 3) := dk_180 (by decide +kernel)
theorem dX12_bind_56 : decode cX12_bind 56 = .ok (.iload_n 1, 1) := dk_27 (by decide +kernel)
theorem dX12_bind_57 : decode cX12_bind 57 = .ok (.iaload, 1) := dk_46 (by decide +kernel)
theorem dX12_bind_58 : decode cX12_bind 58 = .ok (.iconst (-1), 1) := dk_2 (by decide +kernel)
theorem dX12_bind_59 : decode cX12_bind 59 = .ok (.if_icmp .eq 31, 3) := dk_159 (by decide +kernel)
theorem dX12_bind_62 : decode cX12_bind 62 = .ok (.aload_n 0, 1) := dk_42 (by decide +kernel)
theorem dX12_bind_63 : decode cX12_bind 63 = .ok (.getfield 176, 3) := dk_180 (by decide +kernel)
theorem dX12_bind_66 : decode cX12_bind 66 = .ok (.aload_n 0, 1) := dk_42 (by decide +kernel)
theorem dX12_bind_67 : decode cX12_bind 67 = .ok (.getfield 137, 3) := dk_180 (by decide +kernel)
theorem dX12_bind_70 : decode cX12_bind 70 = .ok (.iload_n 1, 1) := dk_27 (by decide +kernel)
theorem dX12_bind_71 : decode cX12_bind 71 = .ok (.iaload, 1) := dk_46 (by decide +kernel)
theorem dX12_bind_72 : decode cX12_bind 72 = .ok (.iconst 1, 1) := dk_4 (by decide +kernel)
theorem dX12_bind_73 : decode cX12_bind 73 = .ok (.iadd, 1) := dk_96 (by decide +kernel)
theorem dX12_bind_74 : decode cX12_bind 74 = .ok (.aload_n 0, 1) := dk_42 (by decide +kernel)
theorem dX12_bind_75 : decode cX12_bind 75 = .ok (.getfield 71, 3) := dk_180 (by decide +kernel)
theorem dX12_bind_78 : decode cX12_bind 78 = .ok (.aload_n 0, 1) := dk_42 (by decide +kernel)
theorem dX12_bind_79 : decode cX12_bind 79 = .ok (.getfield 134, 3) := dk_180 (by decide +kernel)
theorem dX12_bind_82 : decode cX12_bind 82 = .ok (.iload_n 1, 1) := dk_27 (by decide +kernel)
theorem dX12_bind_83 : decode cX12_bind 83 = .ok (.iaload, 1) := dk_46 (by decide +kernel)
theorem dX12_bind_84 : decode cX12_bind 84 = .ok (.iaload, 1) := dk_46 (by decide +kernel)
theorem dX12_bind_85 : decode cX12_bind 85 = .ok (.iload_n 2, 1) := dk_28 (by decide +kernel)
theorem dX12_bind_86 : decode cX12_bind 86 = .ok (.iload_n 3, 1) := dk_29 (by decide +kernel)
theorem dX12_bind_87 : decode cX12_bind 87 = .ok (.irem, 1) := dk_112 (by decide +kernel)
theorem dX12_bind_88 : decode cX12_bind 88 = .ok (.iadd, 1) := dk_96 (by decide +kernel)
theorem dX12_bind_89 : decode cX12_bind 89 = .ok (.iastore, 1) := dk_79 (by decide +kernel)
theorem dX12_bind_90 : decode cX12_bind 90 = .ok (.return_, 1) := dk_177 (by decide +kernel)
def wsRX12_bind : List Cond := .code yX12_bind cX12_bind 4 none :: ([.fieldLink RX12 134 "OptimaWorksModel" "bindTwo" "[I", .fieldLink RX12 74 "OptimaWorksModel" "setMany" "[I", .fieldLink RX12 176 "OptimaWorksModel" "env" "[I", .fieldLink RX12 137 "OptimaWorksModel" "bindAt" "[I", .fieldLink RX12 71 "OptimaWorksModel" "setLow" "[I", .fieldLink RX12 131 "OptimaWorksModel" "bindOne" "[I"] ++ wsX120)
theorem iwsRX12_bind_in12 : ∀ w ∈ wsX120, w ∈ wsRX12_bind := fun _ h => List.mem_cons_of_mem _ (List.mem_append_right _ h)
theorem gdwsRX12_bind : wsRX12_bind.all goodWord = true := gdC rfl (gdA (by decide +kernel : ([.fieldLink RX12 134 "OptimaWorksModel" "bindTwo" "[I", .fieldLink RX12 74 "OptimaWorksModel" "setMany" "[I", .fieldLink RX12 176 "OptimaWorksModel" "env" "[I", .fieldLink RX12 137 "OptimaWorksModel" "bindAt" "[I", .fieldLink RX12 71 "OptimaWorksModel" "setLow" "[I", .fieldLink RX12 131 "OptimaWorksModel" "bindOne" "[I"] : List Cond).all goodWord = true) gdwsX120)
theorem hm_r_X12_bind_0 : (.fieldLink RX12 134 "OptimaWorksModel" "bindTwo" "[I" : Cond) ∈ wsRX12_bind := by decide +kernel
theorem hm_r_X12_bind_1 : (.fieldLink RX12 176 "OptimaWorksModel" "env" "[I" : Cond) ∈ wsRX12_bind := by decide +kernel
theorem hm_r_X12_bind_2 : (.fieldLink RX12 137 "OptimaWorksModel" "bindAt" "[I" : Cond) ∈ wsRX12_bind := by decide +kernel
theorem hm_r_X12_bind_3 : (.fieldLink RX12 71 "OptimaWorksModel" "setLow" "[I" : Cond) ∈ wsRX12_bind := by decide +kernel
set_option maxHeartbeats 4000000 in
set_option maxRecDepth 100000 in
/-- bind(b, k) -/
theorem r_X12_bind (l : Launch) (dC : Nat → ClassId) (dI : Nat → Nat → Nat) (a : Nat → Nat) (k : Nat → ClassId) (h0 : Nat) (vi : Nat → Int32) (vj : Nat → Int64) (vF : Nat → Nat → Int32) (vG : Nat → Nat → Int64) (bN : Nat) (kN : Nat) (se : Nat) (hbN : bN < 900) (hBn : BnO (vF 36) (vF 37) (vF 38) se bN) (hse44 : se ≤ 44) (hSe : SeO (vF 16) (vF 17) se) (hkN : kN < 144) (hEn : EnO (vF 51)) (sz : Nat) : Met l yX12_bind wsRX12_bind ({ frames := 0, cells := 0, slots := 0, locals := 0 }) (va_Pc [.ref h0, .int (nI bN), .int (nI kN)] (fun U => U.heap.size = sz ∧ va_P (dC, dI) vwCl (WR a k h0 vi vj vF vG) U.heap ∧ va_K (dC, dI) vwCl (tX12 k) U ∧ va_D (fun _ => True) (WR a k h0 vi vj vF vG))) (va_Qv (fun (u : Nat → Int32) => (EnO u)) (fun (u : Nat → Int32) t => va_P (dC, dI) vwCl (WR a k h0 vi vj (fT vF 51 u) vG) t.heap ∧ va_D (va_A (WR a k h0 vi vj vF vG) sz) (WR a k h0 vi vj (fT vF 51 u) vG)) (va_A (WR a k h0 vi vj vF vG) sz)) 0 0 (va_A (WR a k h0 vi vj vF vG) sz) := by
  refine Met.ofW (cc := cX12_bind) (maxL := 4) (ret := none) (by decide) rfl ?_
  intro p e s m args below meth c s₁ B hml hv
  obtain ⟨rfl, hsz, hP, hK, hD0⟩ := hv
  have hx := B.exec
  have hb := B.bytes
  have hr := B.returns
  have hts := atoms_spec (ws := wsRX12_bind) B.pre
  have hown : s.vm.findClass RX12 = some m.cls := findClass_of_methodNamed B.named
  have hlocks := B.notSynchronized
  subst hsz
  have hD := hD0.self (sz := s.heap.size)
  generalize hAe : va_A (WR a k h0 vi vj vF vG) s.heap.size = A at hD ⊢
  have hA : ∀ q : Nat, s.heap.size ≤ q → A q := fun q h => by rw [← hAe]; exact Or.inr h
  have hS : va_S A s.heap s.heap [] := va_S.rf
  have hl := lv_entry ([.ref h0, .int (nI bN), .int (nI kN)]) (n := 4) (Nat.le_of_ble_eq_true rfl)
  rw [lg_entry_eq]
  generalize (lg_sl ([.ref h0, .int (nI bN), .int (nI kN)]) ++ List.replicate (4 - (lg_sl ([.ref h0, .int (nI bN), .int (nI kN)])).length) Slot.unset).toArray = ls at hl ⊢
  have hl : lv_has ls 4 [(0, .ref h0), (1, .int (nI bN)), (2, .int (nI kN))] := hl
  obtain ⟨⟨o1, ho1, eo1⟩, hb2, xB, hxB, exB⟩ := hBn
  obtain ⟨⟨m1, hm1, hm2, em1⟩, hl1⟩ := hSe o1 ho1
  refine lv_aload_n hx hb dX12_bind_0 rfl (lv_at hl 0 rfl) ?_
  refine va_get (D := (dC, dI)) (ci := 12) (v := .ref (a 37)) (C := RX12) (T := TX12) (N := 163) (fs := fM (vS a vi vj)) hx hb hts iwsRX12_bind_in12 hown hK hP 0 rfl rfl 62 (by decide) (hts _ hm_r_X12_bind_0) (fun _ h9 => h9) rfl dX12_bind_1 ?_
  refine lv_iload_n hx hb dX12_bind_4 rfl (lv_at hl 1 rfl) ?_
  refine va_iald (cA := k 37) (n := 900) (f := (vF 37)) hx hb hK hP 38 37 (WR_get 37 (by decide)) (TR_get 37 (by decide)) (vp_in_nI (show bN < 900 by omega) (by omega)) dX12_bind_5 ?_
  refine lv_topi (fun y1 hy1 => ?_)
  obtain rfl : ((vF 37) bN) = y1 := (hy1.trans (by rw [nI_clamp (by omega)])).symm
  refine lv_iconst (v := (-1)) hx hb dX12_bind_6 (by decide) ?_
  refine W.cut (pc := 25) (fun H locs ls stk => ∃ (tw : Nat), (1 ≤ tw ∧ tw ≤ 12) ∧  stk = [.int (nI tw)] ∧ va_P (dC, dI) vwCl (WR a k h0 vi vj vF vG) H ∧ va_D A (WR a k h0 vi vj vF vG) ∧ va_S A s.heap H locs ∧ lv_has ls 4 [(0, .ref h0), (1, .int (nI bN)), (2, .int (nI kN))]) (fun join1 => ?_) ?_
  · refine lv_icmp_ne (tgt := 14) hx hb dX12_bind_7 (by decide) (fun c_7 => ?_) (fun c_7 => ?_)
    · have t_7 : (((vF 37) bN)).toInt ≠ -1 := toI_ne c_7 rfl (by decide)
      obtain ⟨o2, ho2, eo2⟩ := hb2.resolve_left c_7
      obtain ⟨⟨m2, hn1, hn2, em2⟩, hl2⟩ := hSe o2 ho2
      refine lv_aload_n hx hb dX12_bind_14 rfl (lv_at hl 0 rfl) ?_
      refine va_get (D := (dC, dI)) (ci := 12) (v := .ref (a 17)) (C := RX12) (T := TX12) (N := 163) (fs := fM (vS a vi vj)) hx hb hts iwsRX12_bind_in12 hown hK hP 0 rfl rfl 40 (by decide) (hts (.fieldLink RX12 74 "OptimaWorksModel" "setMany" "[I") (by decide +kernel)) (fun _ h9 => h9) rfl dX12_bind_15 ?_
      refine lv_aload_n hx hb dX12_bind_18 rfl (lv_at hl 0 rfl) ?_
      refine va_get (D := (dC, dI)) (ci := 12) (v := .ref (a 37)) (C := RX12) (T := TX12) (N := 163) (fs := fM (vS a vi vj)) hx hb hts iwsRX12_bind_in12 hown hK hP 0 rfl rfl 62 (by decide) (hts _ hm_r_X12_bind_0) (fun _ h9 => h9) rfl dX12_bind_19 ?_
      refine lv_iload_n hx hb dX12_bind_22 rfl (lv_at hl 1 rfl) ?_
      refine va_iald (cA := k 37) (n := 900) (f := (vF 37)) hx hb hK hP 38 37 (WR_get 37 (by decide)) (TR_get 37 (by decide)) (vp_in_nI (show bN < 900 by omega) (by omega)) dX12_bind_23 ?_
      refine lv_topi (fun y2 hy2 => ?_)
      obtain rfl : ((vF 37) bN) = y2 := (hy2.trans (by rw [nI_clamp (by omega)])).symm
      refine lv_topi (fun y3 hy3 => ?_)
      obtain rfl : (nI o2) = y3 := (hy3.trans (eo2)).symm
      refine va_iald (cA := k 17) (n := 44) (f := (vF 17)) hx hb hK hP 18 17 (WR_get 17 (by decide)) (TR_get 17 (by decide)) (vp_in_nI (show o2 < 44 by omega) (by omega)) dX12_bind_24 ?_
      refine lv_topi (fun y4 hy4 => ?_)
      obtain rfl : ((vF 17) o2) = y4 := (hy4.trans (by rw [nI_clamp (by omega)])).symm
      refine lv_topi (fun y5 hy5 => ?_)
      obtain rfl : (nI m2) = y5 := (hy5.trans (em2)).symm
      have hl : lv_has _ _ ([(0, .ref h0), (1, .int (nI bN)), (2, .int (nI kN))]) := lv_sub hl [0, 1, 2] rfl
      exact join1 _ _ _ _ ⟨m2, by omega, rfl, hP, hD, hS, hl⟩
    · have t_7 : (((vF 37) bN)).toInt = -1 := toI_nne c_7 rfl (by decide)
      refine lv_iconst (v := 1) hx hb dX12_bind_10 (by decide) ?_
      refine lv_goto (tgt := 25) hx hb dX12_bind_11 (by decide) ?_
      have hl : lv_has _ _ ([(0, .ref h0), (1, .int (nI bN)), (2, .int (nI kN))]) := lv_sub hl [0, 1, 2] rfl
      exact join1 _ _ _ _ ⟨1, by omega, rfl, hP, hD, hS, hl⟩
  · rintro H locs ls stk ⟨tw, htw, rfl, hP, hD, hS, hl⟩
    refine lv_istore_n hx hb dX12_bind_25 rfl hl (by decide) rfl (fun ls (hl : lv_has ls _ ([(3, .int (nI tw)), (0, .ref h0), (1, .int (nI bN)), (2, .int (nI kN))])) => ?_)
    refine lv_aload_n hx hb dX12_bind_26 rfl (lv_at hl 1 rfl) ?_
    refine va_get (D := (dC, dI)) (ci := 12) (v := .ref (a 51)) (C := RX12) (T := TX12) (N := 163) (fs := fM (vS a vi vj)) hx hb hts iwsRX12_bind_in12 hown hK hP 0 rfl rfl 80 (by decide) (hts _ hm_r_X12_bind_1) (fun _ h9 => h9) rfl dX12_bind_27 ?_
    refine lv_aload_n hx hb dX12_bind_30 rfl (lv_at hl 1 rfl) ?_
    refine va_get (D := (dC, dI)) (ci := 12) (v := .ref (a 38)) (C := RX12) (T := TX12) (N := 163) (fs := fM (vS a vi vj)) hx hb hts iwsRX12_bind_in12 hown hK hP 0 rfl rfl 63 (by decide) (hts _ hm_r_X12_bind_2) (fun _ h9 => h9) rfl dX12_bind_31 ?_
    refine lv_iload_n hx hb dX12_bind_34 rfl (lv_at hl 2 rfl) ?_
    refine va_iald (cA := k 38) (n := 900) (f := (vF 38)) hx hb hK hP 39 38 (WR_get 38 (by decide)) (TR_get 38 (by decide)) (vp_in_nI (show bN < 900 by omega) (by omega)) dX12_bind_35 ?_
    refine lv_topi (fun y6 hy6 => ?_)
    obtain rfl : ((vF 38) bN) = y6 := (hy6.trans (by rw [nI_clamp (by omega)])).symm
    refine lv_topi (fun y7 hy7 => ?_)
    obtain rfl : (nI xB) = y7 := (hy7.trans (exB)).symm
    refine lv_aload_n hx hb dX12_bind_36 rfl (lv_at hl 1 rfl) ?_
    refine va_get (D := (dC, dI)) (ci := 12) (v := .ref (a 16)) (C := RX12) (T := TX12) (N := 163) (fs := fM (vS a vi vj)) hx hb hts iwsRX12_bind_in12 hown hK hP 0 rfl rfl 39 (by decide) (hts _ hm_r_X12_bind_3) (fun _ h9 => h9) rfl dX12_bind_37 ?_
    refine lv_aload_n hx hb dX12_bind_40 rfl (lv_at hl 1 rfl) ?_
    refine va_get (D := (dC, dI)) (ci := 12) (v := .ref (a 36)) (C := RX12) (T := TX12) (N := 163) (fs := fM (vS a vi vj)) hx hb hts iwsRX12_bind_in12 hown hK hP 0 rfl rfl 61 (by decide) (hts (.fieldLink RX12 131 "OptimaWorksModel" "bindOne" "[I") (by decide +kernel)) (fun _ h9 => h9) rfl dX12_bind_41 ?_
    refine lv_iload_n hx hb dX12_bind_44 rfl (lv_at hl 2 rfl) ?_
    refine va_iald (cA := k 36) (n := 900) (f := (vF 36)) hx hb hK hP 37 36 (WR_get 36 (by decide)) (TR_get 36 (by decide)) (vp_in_nI (show bN < 900 by omega) (by omega)) dX12_bind_45 ?_
    refine lv_topi (fun y8 hy8 => ?_)
    obtain rfl : ((vF 36) bN) = y8 := (hy8.trans (by rw [nI_clamp (by omega)])).symm
    refine lv_topi (fun y9 hy9 => ?_)
    obtain rfl : (nI o1) = y9 := (hy9.trans (eo1)).symm
    refine va_iald (cA := k 16) (n := 44) (f := (vF 16)) hx hb hK hP 17 16 (WR_get 16 (by decide)) (TR_get 16 (by decide)) (vp_in_nI (show o1 < 44 by omega) (by omega)) dX12_bind_46 ?_
    refine lv_topi (fun y10 hy10 => ?_)
    obtain rfl : ((vF 16) o1) = y10 := (hy10.trans (by rw [nI_clamp (by omega)])).symm
    have hdv : kN / tw ≤ kN := Nat.div_le_self _ _
    have hdz : 0 ≤ ((kN / tw : Nat) : Int) := Int.natCast_nonneg _
    refine lv_iload_n hx hb dX12_bind_47 rfl (lv_at hl 3 rfl) ?_
    refine lv_iload_n hx hb dX12_bind_48 rfl (lv_at hl 0 rfl) ?_
    refine lv_idiv hx hb dX12_bind_49 (by exact nI_ne0 (by omega) (by omega)) ?_
    refine lv_topi (fun y11 hy11 => ?_)
    obtain rfl : (nI (kN / tw)) = y11 := (hy11.trans (pk_div (a := kN) (d := tw) (by omega) (by omega) (by omega))).symm
    refine lv_iadd hx hb dX12_bind_50 ?_
    have e51 : (vF 16 o1 + nI (kN / tw)).toInt = (vF 16 o1).toInt + ((kN / tw : Nat) : Int) := by rw [addB (by omega) (by rw [nI_toInt (by omega)]; omega), nI_toInt (by omega)]
    refine va_iast (cA := k 51) (n := 60) (f := (vF 51)) hx hb hK hP hD hS 52 51 (WR_get 51 (by decide)) (TR_get 51 (by decide)) (vp_in_nI (show xB < 60 by omega) (by omega)) dX12_bind_51 (fun H locs hP hD hS => ?_)
    have hP : va_P (dC, dI) vwCl (WR a k h0 vi vj (fT vF 51 (upd (vF 51) ((nI xB)).toNatClampNeg (((vF 16) o1) + (nI (kN / tw))))) vG) H := fz_w (WR_F 51 (by decide) _ rfl) hP
    have hD : va_D A (WR a k h0 vi vj (fT vF 51 (upd (vF 51) ((nI xB)).toNatClampNeg (((vF 16) o1) + (nI (kN / tw))))) vG) := fz_wD (WR_F 51 (by decide) _ rfl) hD
    refine lv_aload_n hx hb dX12_bind_52 rfl (lv_at hl 1 rfl) ?_
    refine va_get (D := (dC, dI)) (ci := 12) (v := .ref (a 37)) (C := RX12) (T := TX12) (N := 163) (fs := fM (vS a vi vj)) hx hb hts iwsRX12_bind_in12 hown hK hP 0 rfl rfl 62 (by decide) (hts _ hm_r_X12_bind_0) (fun _ h9 => h9) rfl dX12_bind_53 ?_
    refine lv_iload_n hx hb dX12_bind_56 rfl (lv_at hl 2 rfl) ?_
    refine va_iald (cA := k 37) (n := 900) (f := (vF 37)) hx hb hK hP 38 37 (WR_get 37 (by decide)) (TR_get 37 (by decide)) (vp_in_nI (show bN < 900 by omega) (by omega)) dX12_bind_57 ?_
    refine lv_topi (fun y12 hy12 => ?_)
    obtain rfl : ((vF 37) bN) = y12 := (hy12.trans (by rw [nI_clamp (by omega)])).symm
    refine lv_iconst (v := (-1)) hx hb dX12_bind_58 (by decide) ?_
    refine lv_icmp_eq (tgt := 90) hx hb dX12_bind_59 (by decide) (fun c_59 => ?_) (fun c_59 => ?_)
    · have t_59 : (((vF 37) bN)).toInt = -1 := toI_eq c_59 rfl (by decide)
      refine W.widen (k := 0) (n := 0) (by decide +kernel) (by decide +kernel) ?_
      exact W.vret hx hb hr (fun t9_ ht hW => ⟨⟨(upd (vF 51) ((nI xB)).toNatClampNeg (((vF 16) o1) + (nI (kN / tw)))), rfl, by (try dsimp only); exact hEn.set (k := xB) (fun q hq => by rw [upd_at (by omega), if_neg hq]) (by rw [upd_at (by omega), if_pos rfl]; omega), by rw [ht]; exact hP, hD⟩, hS.F ht⟩) hS.2.2 dX12_bind_90
    · have t_59 : ¬ (((vF 37) bN)).toInt = -1 := toI_neq c_59 rfl (by decide)
      obtain ⟨o2, ho2, eo2⟩ := hb2.resolve_left c_59
      obtain ⟨⟨m2, hn1, hn2, em2⟩, hl2⟩ := hSe o2 ho2
      refine lv_aload_n hx hb dX12_bind_62 rfl (lv_at hl 1 rfl) ?_
      refine va_get (D := (dC, dI)) (ci := 12) (v := .ref (a 51)) (C := RX12) (T := TX12) (N := 163) (fs := fM (vS a vi vj)) hx hb hts iwsRX12_bind_in12 hown hK hP 0 rfl rfl 80 (by decide) (hts _ hm_r_X12_bind_1) (fun _ h9 => h9) rfl dX12_bind_63 ?_
      refine lv_aload_n hx hb dX12_bind_66 rfl (lv_at hl 1 rfl) ?_
      refine va_get (D := (dC, dI)) (ci := 12) (v := .ref (a 38)) (C := RX12) (T := TX12) (N := 163) (fs := fM (vS a vi vj)) hx hb hts iwsRX12_bind_in12 hown hK hP 0 rfl rfl 63 (by decide) (hts _ hm_r_X12_bind_2) (fun _ h9 => h9) rfl dX12_bind_67 ?_
      refine lv_iload_n hx hb dX12_bind_70 rfl (lv_at hl 2 rfl) ?_
      refine va_iald (cA := k 38) (n := 900) (f := (vF 38)) hx hb hK hP 39 38 (WR_get 38 (by decide)) (TR_get 38 (by decide)) (vp_in_nI (show bN < 900 by omega) (by omega)) dX12_bind_71 ?_
      refine lv_topi (fun y13 hy13 => ?_)
      obtain rfl : ((vF 38) bN) = y13 := (hy13.trans (by rw [nI_clamp (by omega)])).symm
      refine lv_topi (fun y14 hy14 => ?_)
      obtain rfl : (nI xB) = y14 := (hy14.trans (exB)).symm
      refine lv_iconst (v := 1) hx hb dX12_bind_72 (by decide) ?_
      refine lv_iadd hx hb dX12_bind_73 ?_
      refine lv_topi (fun y15 hy15 => ?_)
      obtain rfl : (nI (xB + 1)) = y15 := (hy15.trans (nI_add xB 1)).symm
      refine lv_aload_n hx hb dX12_bind_74 rfl (lv_at hl 1 rfl) ?_
      refine va_get (D := (dC, dI)) (ci := 12) (v := .ref (a 16)) (C := RX12) (T := TX12) (N := 163) (fs := fM (vS a vi vj)) hx hb hts iwsRX12_bind_in12 hown hK hP 0 rfl rfl 39 (by decide) (hts _ hm_r_X12_bind_3) (fun _ h9 => h9) rfl dX12_bind_75 ?_
      refine lv_aload_n hx hb dX12_bind_78 rfl (lv_at hl 1 rfl) ?_
      refine va_get (D := (dC, dI)) (ci := 12) (v := .ref (a 37)) (C := RX12) (T := TX12) (N := 163) (fs := fM (vS a vi vj)) hx hb hts iwsRX12_bind_in12 hown hK hP 0 rfl rfl 62 (by decide) (hts _ hm_r_X12_bind_0) (fun _ h9 => h9) rfl dX12_bind_79 ?_
      refine lv_iload_n hx hb dX12_bind_82 rfl (lv_at hl 2 rfl) ?_
      refine va_iald (cA := k 37) (n := 900) (f := (vF 37)) hx hb hK hP 38 37 (WR_get 37 (by decide)) (TR_get 37 (by decide)) (vp_in_nI (show bN < 900 by omega) (by omega)) dX12_bind_83 ?_
      refine lv_topi (fun y16 hy16 => ?_)
      obtain rfl : ((vF 37) bN) = y16 := (hy16.trans (by rw [nI_clamp (by omega)])).symm
      refine lv_topi (fun y17 hy17 => ?_)
      obtain rfl : (nI o2) = y17 := (hy17.trans (eo2)).symm
      refine va_iald (cA := k 16) (n := 44) (f := (vF 16)) hx hb hK hP 17 16 (WR_get 16 (by decide)) (TR_get 16 (by decide)) (vp_in_nI (show o2 < 44 by omega) (by omega)) dX12_bind_84 ?_
      refine lv_topi (fun y18 hy18 => ?_)
      obtain rfl : ((vF 16) o2) = y18 := (hy18.trans (by rw [nI_clamp (by omega)])).symm
      have hmd : kN % tw < tw := Nat.mod_lt _ (by omega)
      have hmz : 0 ≤ ((kN % tw : Nat) : Int) := Int.natCast_nonneg _
      refine lv_iload_n hx hb dX12_bind_85 rfl (lv_at hl 3 rfl) ?_
      refine lv_iload_n hx hb dX12_bind_86 rfl (lv_at hl 0 rfl) ?_
      refine lv_irem hx hb dX12_bind_87 (by exact nI_ne0 (by omega) (by omega)) ?_
      refine lv_topi (fun y19 hy19 => ?_)
      obtain rfl : (nI (kN % tw)) = y19 := (hy19.trans (pk_rem (a := kN) (d := tw) (by omega) (by omega) (by omega))).symm
      refine lv_iadd hx hb dX12_bind_88 ?_
      have e89 : (vF 16 o2 + nI (kN % tw)).toInt = (vF 16 o2).toInt + ((kN % tw : Nat) : Int) := by rw [addB (by omega) (by rw [nI_toInt (by omega)]; omega), nI_toInt (by omega)]
      refine va_iast (cA := k 51) (n := 60) (f := (upd (vF 51) ((nI xB)).toNatClampNeg (((vF 16) o1) + (nI (kN / tw))))) hx hb hK hP hD hS 52 51 (WR_get 51 (by decide)) (TR_get 51 (by decide)) (vp_in_nI (show (xB + 1) < 60 by omega) (by omega)) dX12_bind_89 (fun H locs hP hD hS => ?_)
      have e9 : fT vF 51 (upd (upd (vF 51) ((nI xB)).toNatClampNeg (((vF 16) o1) + (nI (kN / tw)))) ((nI (xB + 1))).toNatClampNeg (((vF 16) o2) + (nI (kN % tw)))) = fT (fT vF 51 (upd (vF 51) ((nI xB)).toNatClampNeg (((vF 16) o1) + (nI (kN / tw))))) 51 (upd (upd (vF 51) ((nI xB)).toNatClampNeg (((vF 16) o1) + (nI (kN / tw)))) ((nI (xB + 1))).toNatClampNeg (((vF 16) o2) + (nI (kN % tw)))) := (fT_sm _ _ _ _).symm
      have hP := wr_PF e9 (fz_w (WR_F 51 (by decide) _ rfl) hP)
      have hD := wr_DF e9 (fz_wD (WR_F 51 (by decide) _ rfl) hD)
      clear e9
      refine W.widen (k := 0) (n := 0) (by decide +kernel) (by decide +kernel) ?_
      exact W.vret hx hb hr (fun t9_ ht hW => ⟨⟨(upd (upd (vF 51) ((nI xB)).toNatClampNeg (((vF 16) o1) + (nI (kN / tw)))) ((nI (xB + 1))).toNatClampNeg (((vF 16) o2) + (nI (kN % tw)))), rfl, by (try dsimp only); exact (hEn.set (k := xB) (g := upd (vF 51) (nI xB).toNatClampNeg (vF 16 o1 + nI (kN / tw))) (fun q hq => by rw [upd_at (by omega), if_neg hq]) (by rw [upd_at (by omega), if_pos rfl]; omega)).set (k := xB + 1) (fun q hq => by rw [upd_at (by omega), if_neg hq]) (by rw [upd_at (by omega), if_pos rfl]; omega), by rw [ht]; exact hP, hD⟩, hS.F ht⟩) hS.2.2 dX12_bind_90
theorem dX12_isNode_0 : decode cX12_isNode 0 = .ok (.iload_n 1, 1) := dk_27 (by decide +kernel)
theorem dX12_isNode_1 : decode cX12_isNode 1 = .ok (.iconst (-1), 1) := dk_2 (by decide +kernel)
theorem dX12_isNode_2 : decode cX12_isNode 2 = .ok (.if_icmp .eq 27, 3) := dk_159 (by decide +kernel)
theorem dX12_isNode_5 : decode cX12_isNode 5 = .ok (.aload_n 0, 1) := dk_42 (by decide +kernel)
theorem dX12_isNode_6 : decode cX12_isNode 6 = .ok (.getfield 50, 3) := dk_180 (by decide +kernel)
theorem dX12_isNode_9 : decode cX12_isNode 9 = .ok (.iload_n 1, 1) := dk_27 (by decide +kernel)
theorem dX12_isNode_10 : decode cX12_isNode 10 = .ok (.iaload, 1) := dk_46 (by decide +kernel)
theorem dX12_isNode_11 : decode cX12_isNode 11 = .ok (.iconst 2, 1) := dk_5 (by decide +kernel)
theorem dX12_isNode_12 : decode cX12_isNode 12 = .ok (.if_icmp .eq 13, 3) := dk_159 (by decide +kernel)
theorem dX12_isNode_15 : decode cX12_isNode 15 = .ok (.aload_n 0, 1) := dk_42 (by decide +kernel)
theorem dX12_isNode_16 : decode cX12_isNode 16 = .ok (.getfield 50, 3) := dk_180 (by decide +kernel)
theorem dX12_isNode_19 : decode cX12_isNode 19 = .ok (.iload_n 1, 1) := dk_27 (by decide +kernel)
theorem dX12_isNode_20 : decode cX12_isNode 20 = .ok (.iaload, 1) := dk_46 (by decide +kernel)
theorem dX12_isNode_21 : decode cX12_isNode 21 = .ok (.iconst 3, 1) := dk_6 (by decide +kernel)
theorem dX12_isNode_22 : decode cX12_isNode 22 = .ok (.if_icmp .ne 7, 3) := dk_160 (by decide +kernel)
theorem dX12_isNode_25 : decode cX12_isNode 25 = .ok (.iconst 1, 1) := dk_4 (by decide +kernel)
theorem dX12_isNode_26 : decode cX12_isNode 26 = .ok (.goto 4, 3) := dk_167 (by decide +kernel)
theorem dX12_isNode_29 : decode cX12_isNode 29 = .ok (.iconst 0, 1) := dk_3 (by decide +kernel)
theorem dX12_isNode_30 : decode cX12_isNode 30 = .ok (.ireturn, 1) := dk_172 (by decide +kernel)
def wsRisNodea : List Cond := .code yX12_isNode cX12_isNode 2 (some .boolean) :: ([.fieldLink RX12 50 "OptimaWorksModel" "nameKind" "[I"] ++ wsX120)
theorem iwsRisNodea_in12 : ∀ w ∈ wsX120, w ∈ wsRisNodea := fun _ h => List.mem_cons_of_mem _ (List.mem_append_right _ h)
theorem gdwsRisNodea : wsRisNodea.all goodWord = true := gdC rfl (gdA (by decide +kernel : ([.fieldLink RX12 50 "OptimaWorksModel" "nameKind" "[I"] : List Cond).all goodWord = true) gdwsX120)
theorem hm_r_X12_isNodea_0 : (.fieldLink RX12 50 "OptimaWorksModel" "nameKind" "[I" : Cond) ∈ wsRisNodea := by decide +kernel
set_option maxHeartbeats 4000000 in
set_option maxRecDepth 100000 in
/-- isNode(d) -/
theorem r_X12_isNodea (l : Launch) (dC : Nat → ClassId) (dI : Nat → Nat → Nat) (a : Nat → Nat) (k : Nat → ClassId) (h0 : Nat) (vi : Nat → Int32) (vj : Nat → Int64) (vF : Nat → Nat → Int32) (vG : Nat → Nat → Int64) (kx : Nat) (hkx : kx < 44) (sz : Nat) : Met l yX12_isNode wsRisNodea ({ frames := 0, cells := 0, slots := 0, locals := 0 }) (va_Pc [.ref h0, .int (nI kx)] (fun U => U.heap.size = sz ∧ va_P (dC, dI) vwCl (WR a k h0 vi vj vF vG) U.heap ∧ va_K (dC, dI) vwCl (tX12 k) U ∧ va_D (fun _ => True) (WR a k h0 vi vj vF vG))) (va_Qi (fun (r : Int32) (u : Unit) => (r = 1 ∧ (vF 10 kx = 2 ∨ vF 10 kx = 3)) ∨ (r = 0 ∧ (¬ (vF 10 kx = 2 ∨ vF 10 kx = 3)))) (fun (u : Unit) t => va_P (dC, dI) vwCl (WR a k h0 vi vj vF vG) t.heap ∧ va_D (va_A (WR a k h0 vi vj vF vG) sz) (WR a k h0 vi vj vF vG)) (va_A (WR a k h0 vi vj vF vG) sz)) 0 0 (va_A (WR a k h0 vi vj vF vG) sz) := by
  refine Met.ofW (cc := cX12_isNode) (maxL := 2) (ret := (some .boolean)) (by decide) rfl ?_
  intro p e s m args below meth c s₁ B hml hv
  obtain ⟨rfl, hsz, hP, hK, hD0⟩ := hv
  have hx := B.exec
  have hb := B.bytes
  have hr := B.returns
  have hts := atoms_spec (ws := wsRisNodea) B.pre
  have hown : s.vm.findClass RX12 = some m.cls := findClass_of_methodNamed B.named
  have hlocks := B.notSynchronized
  subst hsz
  have hD := hD0.self (sz := s.heap.size)
  generalize hAe : va_A (WR a k h0 vi vj vF vG) s.heap.size = A at hD ⊢
  have hA : ∀ q : Nat, s.heap.size ≤ q → A q := fun q h => by rw [← hAe]; exact Or.inr h
  have hS : va_S A s.heap s.heap [] := va_S.rf
  have hl := lv_entry ([.ref h0, .int (nI kx)]) (n := 2) (Nat.le_of_ble_eq_true rfl)
  rw [lg_entry_eq]
  generalize (lg_sl ([.ref h0, .int (nI kx)]) ++ List.replicate (2 - (lg_sl ([.ref h0, .int (nI kx)])).length) Slot.unset).toArray = ls at hl ⊢
  have hl : lv_has ls 2 [(0, .ref h0), (1, .int (nI kx))] := hl
  refine lv_iload_n hx hb dX12_isNode_0 rfl (lv_at hl 1 rfl) ?_
  refine lv_iconst (v := (-1)) hx hb dX12_isNode_1 (by decide) ?_
  refine lv_icmp_eq (tgt := 29) hx hb dX12_isNode_2 (by decide) (fun c9 => False.elim (nI_nm1 (by omega) c9)) (fun c_2 => ?_)
  have t_2 : ¬ ((kx : Nat) : Int) = -1 := toI_neq c_2 (nI_toInt (by omega)) (by decide)
  refine lv_aload_n hx hb dX12_isNode_5 rfl (lv_at hl 0 rfl) ?_
  refine va_get (D := (dC, dI)) (ci := 12) (v := .ref (a 10)) (C := RX12) (T := TX12) (N := 163) (fs := fM (vS a vi vj)) hx hb hts iwsRisNodea_in12 hown hK hP 0 rfl rfl 26 (by decide) (hts _ hm_r_X12_isNodea_0) (fun _ h9 => h9) rfl dX12_isNode_6 ?_
  refine lv_iload_n hx hb dX12_isNode_9 rfl (lv_at hl 1 rfl) ?_
  refine va_iald (cA := k 10) (n := 44) (f := (vF 10)) hx hb hK hP 11 10 (WR_get 10 (by decide)) (TR_get 10 (by decide)) (vp_in_nI (show kx < 44 by omega) (by omega)) dX12_isNode_10 ?_
  refine lv_topi (fun y1 hy1 => ?_)
  obtain rfl : ((vF 10) kx) = y1 := (hy1.trans (by rw [nI_clamp (by omega)])).symm
  refine lv_iconst (v := 2) hx hb dX12_isNode_11 (by decide) ?_
  refine lv_icmp_eq (tgt := 25) hx hb dX12_isNode_12 (by decide) (fun c_12 => ?_) (fun c_12 => ?_)
  · have t_12 : (((vF 10) kx)).toInt = 2 := toI_eq c_12 rfl (by decide)
    refine lv_iconst (v := 1) hx hb dX12_isNode_25 (by decide) ?_
    refine lv_goto (tgt := 30) hx hb dX12_isNode_26 (by decide) ?_
    refine W.widen (k := 0) (n := 0) (by decide +kernel) (by decide +kernel) ?_
    exact W.zret (v := 1) hx hb hr rfl (fun t9_ ht hW => ⟨⟨1, (), rfl, by (try dsimp only); exact Or.inl ⟨rfl, Or.inl c_12⟩, by rw [ht]; exact hP, hD⟩, hS.F ht⟩) hS.2.2 dX12_isNode_30
  · have t_12 : ¬ (((vF 10) kx)).toInt = 2 := toI_neq c_12 rfl (by decide)
    refine lv_aload_n hx hb dX12_isNode_15 rfl (lv_at hl 0 rfl) ?_
    refine va_get (D := (dC, dI)) (ci := 12) (v := .ref (a 10)) (C := RX12) (T := TX12) (N := 163) (fs := fM (vS a vi vj)) hx hb hts iwsRisNodea_in12 hown hK hP 0 rfl rfl 26 (by decide) (hts _ hm_r_X12_isNodea_0) (fun _ h9 => h9) rfl dX12_isNode_16 ?_
    refine lv_iload_n hx hb dX12_isNode_19 rfl (lv_at hl 1 rfl) ?_
    refine va_iald (cA := k 10) (n := 44) (f := (vF 10)) hx hb hK hP 11 10 (WR_get 10 (by decide)) (TR_get 10 (by decide)) (vp_in_nI (show kx < 44 by omega) (by omega)) dX12_isNode_20 ?_
    refine lv_topi (fun y2 hy2 => ?_)
    obtain rfl : ((vF 10) kx) = y2 := (hy2.trans (by rw [nI_clamp (by omega)])).symm
    refine lv_iconst (v := 3) hx hb dX12_isNode_21 (by decide) ?_
    refine lv_icmp_ne (tgt := 29) hx hb dX12_isNode_22 (by decide) (fun c_22 => ?_) (fun c_22 => ?_)
    · have t_22 : (((vF 10) kx)).toInt ≠ 3 := toI_ne c_22 rfl (by decide)
      refine lv_iconst (v := 0) hx hb dX12_isNode_29 (by decide) ?_
      refine W.widen (k := 0) (n := 0) (by decide +kernel) (by decide +kernel) ?_
      exact W.zret (v := 0) hx hb hr rfl (fun t9_ ht hW => ⟨⟨0, (), rfl, by (try dsimp only); exact Or.inr ⟨rfl, fun h9 => h9.elim c_12 c_22⟩, by rw [ht]; exact hP, hD⟩, hS.F ht⟩) hS.2.2 dX12_isNode_30
    · have t_22 : (((vF 10) kx)).toInt = 3 := toI_nne c_22 rfl (by decide)
      refine lv_iconst (v := 1) hx hb dX12_isNode_25 (by decide) ?_
      refine lv_goto (tgt := 30) hx hb dX12_isNode_26 (by decide) ?_
      refine W.widen (k := 0) (n := 0) (by decide +kernel) (by decide +kernel) ?_
      exact W.zret (v := 1) hx hb hr rfl (fun t9_ ht hW => ⟨⟨1, (), rfl, by (try dsimp only); exact Or.inl ⟨rfl, Or.inr c_22⟩, by rw [ht]; exact hP, hD⟩, hS.F ht⟩) hS.2.2 dX12_isNode_30
def wsRisNodeb : List Cond := .code yX12_isNode cX12_isNode 2 (some .boolean) :: ([] ++ wsX120)
theorem iwsRisNodeb_in12 : ∀ w ∈ wsX120, w ∈ wsRisNodeb := fun _ h => List.mem_cons_of_mem _ (List.mem_append_right _ h)
theorem gdwsRisNodeb : wsRisNodeb.all goodWord = true := gdC rfl (gdA (by decide +kernel : ([] : List Cond).all goodWord = true) gdwsX120)
set_option maxHeartbeats 4000000 in
set_option maxRecDepth 100000 in
/-- isNode(NONE) -/
theorem r_X12_isNodeb (l : Launch) (dC : Nat → ClassId) (dI : Nat → Nat → Nat) (a : Nat → Nat) (k : Nat → ClassId) (h0 : Nat) (vi : Nat → Int32) (vj : Nat → Int64) (vF : Nat → Nat → Int32) (vG : Nat → Nat → Int64) (sz : Nat) : Met l yX12_isNode wsRisNodeb ({ frames := 0, cells := 0, slots := 0, locals := 0 }) (va_Pc [.ref h0, .int (-1)] (fun U => U.heap.size = sz ∧ va_P (dC, dI) vwCl (WR a k h0 vi vj vF vG) U.heap ∧ va_K (dC, dI) vwCl (tX12 k) U ∧ va_D (fun _ => True) (WR a k h0 vi vj vF vG))) (va_Qi (fun (r : Int32) (u : Unit) => r = 0) (fun (u : Unit) t => va_P (dC, dI) vwCl (WR a k h0 vi vj vF vG) t.heap ∧ va_D (va_A (WR a k h0 vi vj vF vG) sz) (WR a k h0 vi vj vF vG)) (va_A (WR a k h0 vi vj vF vG) sz)) 0 0 (va_A (WR a k h0 vi vj vF vG) sz) := by
  refine Met.ofW (cc := cX12_isNode) (maxL := 2) (ret := (some .boolean)) (by decide) rfl ?_
  intro p e s m args below meth c s₁ B hml hv
  obtain ⟨rfl, hsz, hP, hK, hD0⟩ := hv
  have hx := B.exec
  have hb := B.bytes
  have hr := B.returns
  have hts := atoms_spec (ws := wsRisNodeb) B.pre
  have hown : s.vm.findClass RX12 = some m.cls := findClass_of_methodNamed B.named
  have hlocks := B.notSynchronized
  subst hsz
  have hD := hD0.self (sz := s.heap.size)
  generalize hAe : va_A (WR a k h0 vi vj vF vG) s.heap.size = A at hD ⊢
  have hA : ∀ q : Nat, s.heap.size ≤ q → A q := fun q h => by rw [← hAe]; exact Or.inr h
  have hS : va_S A s.heap s.heap [] := va_S.rf
  have hl := lv_entry ([.ref h0, .int (-1)]) (n := 2) (Nat.le_of_ble_eq_true rfl)
  rw [lg_entry_eq]
  generalize (lg_sl ([.ref h0, .int (-1)]) ++ List.replicate (2 - (lg_sl ([.ref h0, .int (-1)])).length) Slot.unset).toArray = ls at hl ⊢
  have hl : lv_has ls 2 [(0, .ref h0), (1, .int (-1))] := hl
  refine lv_iload_n hx hb dX12_isNode_0 rfl (lv_at hl 1 rfl) ?_
  refine lv_iconst (v := (-1)) hx hb dX12_isNode_1 (by decide) ?_
  refine lv_icmp_eq (tgt := 29) hx hb dX12_isNode_2 (by decide) (fun _ => ?_) (fun c9 => absurd (by decide) c9)
  refine lv_iconst (v := 0) hx hb dX12_isNode_29 (by decide) ?_
  refine W.widen (k := 0) (n := 0) (by decide +kernel) (by decide +kernel) ?_
  exact W.zret (v := 0) hx hb hr rfl (fun t9_ ht hW => ⟨⟨0, (), rfl, by (first | rfl | assumption | trivial | omega | (simp []; done) | (simp; omega)), by rw [ht]; exact hP, hD⟩, hS.F ht⟩) hS.2.2 dX12_isNode_30
theorem dX12_fresh_0 : decode cX12_fresh 0 = .ok (.aload_n 0, 1) := dk_42 (by decide +kernel)
theorem dX12_fresh_1 : decode cX12_fresh 1 = .ok (.iconst 0, 1) := dk_3 (by decide +kernel)
theorem dX12_fresh_2 : decode cX12_fresh 2 = .ok (.putfield 543, 3) := dk_181 (by decide +kernel)
theorem dX12_fresh_5 : decode cX12_fresh 5 = .ok (.aload_n 0, 1) := dk_42 (by decide +kernel)
theorem dX12_fresh_6 : decode cX12_fresh 6 = .ok (.iconst 0, 1) := dk_3 (by decide +kernel)
theorem dX12_fresh_7 : decode cX12_fresh 7 = .ok (.putfield 546, 3) := dk_181 (by decide +kernel)
theorem dX12_fresh_10 : decode cX12_fresh 10 = .ok (.aload_n 0, 1) := dk_42 (by decide +kernel)
theorem dX12_fresh_11 : decode cX12_fresh 11 = .ok (.iconst 0, 1) := dk_3 (by decide +kernel)
theorem dX12_fresh_12 : decode cX12_fresh 12 = .ok (.putfield 540, 3) := dk_181 (by decide +kernel)
theorem dX12_fresh_15 : decode cX12_fresh 15 = .ok (.aload_n 0, 1) := dk_42 (by decide +kernel)
theorem dX12_fresh_16 : decode cX12_fresh 16 = .ok (.iconst 0, 1) := dk_3 (by decide +kernel)
theorem dX12_fresh_17 : decode cX12_fresh 17 = .ok (.putfield 570, 3) := dk_181 (by decide +kernel)
theorem dX12_fresh_20 : decode cX12_fresh 20 = .ok (.aload_n 0, 1) := dk_42 (by decide +kernel)
theorem dX12_fresh_21 : decode cX12_fresh 21 = .ok (.iconst 0, 1) := dk_3 (by decide +kernel)
theorem dX12_fresh_22 : decode cX12_fresh 22 = .ok (.putfield 699, 3) := dk_181 (by decide +kernel)
theorem dX12_fresh_25 : decode cX12_fresh 25 = .ok (.aload_n 0, 1) := dk_42 (by decide +kernel)
theorem dX12_fresh_26 : decode cX12_fresh 26 = .ok (.iconst 0, 1) := dk_3 (by decide +kernel)
theorem dX12_fresh_27 : decode cX12_fresh 27 = .ok (.putfield 659, 3) := dk_181 (by decide +kernel)
theorem dX12_fresh_30 : decode cX12_fresh 30 = .ok (.aload_n 0, 1) := dk_42 (by decide +kernel)
theorem dX12_fresh_31 : decode cX12_fresh 31 = .ok (.iconst 0, 1) := dk_3 (by decide +kernel)
theorem dX12_fresh_32 : decode cX12_fresh 32 = .ok (.putfield 641, 3) := dk_181 (by decide +kernel)
theorem dX12_fresh_35 : decode cX12_fresh 35 = .ok (.aload_n 0, 1) := dk_42 (by decide +kernel)
theorem dX12_fresh_36 : decode cX12_fresh 36 = .ok (.iconst (-1), 1) := dk_2 (by decide +kernel)
theorem dX12_fresh_37 : decode cX12_fresh 37 = .ok (.putfield 68, 3) := dk_181 (by decide +kernel)
theorem dX12_fresh_40 : decode cX12_fresh 40 = .ok (.aload_n 0, 1) := dk_42 (by decide +kernel)
theorem dX12_fresh_41 : decode cX12_fresh 41 = .ok (.aload_n 0, 1) := dk_42 (by decide +kernel)
theorem dX12_fresh_42 : decode cX12_fresh 42 = .ok (.getfield 488, 3) := dk_180 (by decide +kernel)
theorem dX12_fresh_45 : decode cX12_fresh 45 = .ok (.putfield 644, 3) := dk_181 (by decide +kernel)
theorem dX12_fresh_48 : decode cX12_fresh 48 = .ok (.return_, 1) := dk_177 (by decide +kernel)
def wsRX12_fresh : List Cond := .code yX12_fresh cX12_fresh 1 none :: ([.fieldLink RX12 543 "OptimaWorksModel" "nodes" "I", .fieldLink RX12 546 "OptimaWorksModel" "bindings" "I", .fieldLink RX12 540 "OptimaWorksModel" "binders" "I", .fieldLink RX12 570 "OptimaWorksModel" "within" "I", .fieldLink RX12 699 "OptimaWorksModel" "partMany" "I", .fieldLink RX12 659 "OptimaWorksModel" "piled" "I", .fieldLink RX12 641 "OptimaWorksModel" "steps" "I", .fieldLink RX12 68 "OptimaWorksModel" "ownFrom" "I", .fieldLink RX12 488 "OptimaWorksModel" "from" "I", .fieldLink RX12 644 "OptimaWorksModel" "begun" "I"] ++ wsX120)
theorem iwsRX12_fresh_in12 : ∀ w ∈ wsX120, w ∈ wsRX12_fresh := fun _ h => List.mem_cons_of_mem _ (List.mem_append_right _ h)
theorem gdwsRX12_fresh : wsRX12_fresh.all goodWord = true := gdC rfl (gdA (by decide +kernel : ([.fieldLink RX12 543 "OptimaWorksModel" "nodes" "I", .fieldLink RX12 546 "OptimaWorksModel" "bindings" "I", .fieldLink RX12 540 "OptimaWorksModel" "binders" "I", .fieldLink RX12 570 "OptimaWorksModel" "within" "I", .fieldLink RX12 699 "OptimaWorksModel" "partMany" "I", .fieldLink RX12 659 "OptimaWorksModel" "piled" "I", .fieldLink RX12 641 "OptimaWorksModel" "steps" "I", .fieldLink RX12 68 "OptimaWorksModel" "ownFrom" "I", .fieldLink RX12 488 "OptimaWorksModel" "from" "I", .fieldLink RX12 644 "OptimaWorksModel" "begun" "I"] : List Cond).all goodWord = true) gdwsX120)
set_option maxHeartbeats 4000000 in
set_option maxRecDepth 100000 in
/-- fresh() -/
theorem r_X12_fresh (l : Launch) (dC : Nat → ClassId) (dI : Nat → Nat → Nat) (a : Nat → Nat) (k : Nat → ClassId) (h0 : Nat) (vi : Nat → Int32) (vj : Nat → Int64) (vF : Nat → Nat → Int32) (vG : Nat → Nat → Int64) (sz : Nat) : Met l yX12_fresh wsRX12_fresh ({ frames := 0, cells := 0, slots := 0, locals := 0 }) (va_Pc [.ref h0] (fun U => U.heap.size = sz ∧ va_P (dC, dI) vwCl (WR a k h0 vi vj vF vG) U.heap ∧ va_K (dC, dI) vwCl (tX12 k) U ∧ va_D (fun _ => True) (WR a k h0 vi vj vF vG))) (va_Qv (fun (u : Unit) => True) (fun (u : Unit) t => va_P (dC, dI) vwCl (WR a k h0 (fT (fT (fT (fT (fT (fT (fT (fT (fT vi 52 0) 60 0) 30 0) 75 0) 109 0) 81 0) 82 0) 33 (-1)) 83 (vi 19)) vj vF vG) t.heap ∧ va_D (va_A (WR a k h0 vi vj vF vG) sz) (WR a k h0 (fT (fT (fT (fT (fT (fT (fT (fT (fT vi 52 0) 60 0) 30 0) 75 0) 109 0) 81 0) 82 0) 33 (-1)) 83 (vi 19)) vj vF vG)) (va_A (WR a k h0 vi vj vF vG) sz)) 0 0 (va_A (WR a k h0 vi vj vF vG) sz) := by
  refine Met.ofW (cc := cX12_fresh) (maxL := 1) (ret := none) (by decide) rfl ?_
  intro p e s m args below meth c s₁ B hml hv
  obtain ⟨rfl, hsz, hP, hK, hD0⟩ := hv
  have hx := B.exec
  have hb := B.bytes
  have hr := B.returns
  have hts := atoms_spec (ws := wsRX12_fresh) B.pre
  have hown : s.vm.findClass RX12 = some m.cls := findClass_of_methodNamed B.named
  have hlocks := B.notSynchronized
  subst hsz
  have hD := hD0.self (sz := s.heap.size)
  generalize hAe : va_A (WR a k h0 vi vj vF vG) s.heap.size = A at hD ⊢
  have hA : ∀ q : Nat, s.heap.size ≤ q → A q := fun q h => by rw [← hAe]; exact Or.inr h
  have hS : va_S A s.heap s.heap [] := va_S.rf
  have hl := lv_entry ([.ref h0]) (n := 1) (Nat.le_of_ble_eq_true rfl)
  rw [lg_entry_eq]
  generalize (lg_sl ([.ref h0]) ++ List.replicate (1 - (lg_sl ([.ref h0])).length) Slot.unset).toArray = ls at hl ⊢
  have hl : lv_has ls 1 [(0, .ref h0)] := hl
  refine lv_aload_n hx hb dX12_fresh_0 rfl (lv_at hl 0 rfl) ?_
  refine lv_iconst (v := 0) hx hb dX12_fresh_1 (by decide) ?_
  refine va_put (D := (dC, dI)) (ci := 12) (v := .int 0) (ty := .int) (C := RX12) (T := TX12) (N := 163) (fs := fM (vS a vi vj)) hx hb hts iwsRX12_fresh_in12 tyX12 tyX12_ok nmX12 hown hK hP hD hS 0 rfl rfl 52 (by decide) (hts (.fieldLink RX12 543 "OptimaWorksModel" "nodes" "I") (by decide +kernel)) (fun _ h9 => h9) rfl (by decide +kernel) rfl rfl (Nat.le_of_ble_eq_true rfl) dX12_fresh_2 (fun H locs hP hD hS => ?_)
  have hP : va_P (dC, dI) vwCl (WR a k h0 (fT vi 52 0) vj vF vG) H := fz_w (WR_i 52 _ rfl) hP
  have hD : va_D A (WR a k h0 (fT vi 52 0) vj vF vG) := fz_wD (WR_i 52 _ rfl) hD
  refine lv_aload_n hx hb dX12_fresh_5 rfl (lv_at hl 0 rfl) ?_
  refine lv_iconst (v := 0) hx hb dX12_fresh_6 (by decide) ?_
  refine va_put (D := (dC, dI)) (ci := 12) (v := .int 0) (ty := .int) (C := RX12) (T := TX12) (N := 163) (fs := fM (vS a (fT vi 52 0) vj)) hx hb hts iwsRX12_fresh_in12 tyX12 tyX12_ok nmX12 hown hK hP hD hS 0 rfl rfl 60 (by decide) (hts (.fieldLink RX12 546 "OptimaWorksModel" "bindings" "I") (by decide +kernel)) (fun _ h9 => h9) rfl (by decide +kernel) rfl rfl (Nat.le_of_ble_eq_true rfl) dX12_fresh_7 (fun H locs hP hD hS => ?_)
  have hP : va_P (dC, dI) vwCl (WR a k h0 (fT (fT vi 52 0) 60 0) vj vF vG) H := fz_w (WR_i 60 _ rfl) hP
  have hD : va_D A (WR a k h0 (fT (fT vi 52 0) 60 0) vj vF vG) := fz_wD (WR_i 60 _ rfl) hD
  refine lv_aload_n hx hb dX12_fresh_10 rfl (lv_at hl 0 rfl) ?_
  refine lv_iconst (v := 0) hx hb dX12_fresh_11 (by decide) ?_
  refine va_put (D := (dC, dI)) (ci := 12) (v := .int 0) (ty := .int) (C := RX12) (T := TX12) (N := 163) (fs := fM (vS a (fT (fT vi 52 0) 60 0) vj)) hx hb hts iwsRX12_fresh_in12 tyX12 tyX12_ok nmX12 hown hK hP hD hS 0 rfl rfl 30 (by decide) (hts (.fieldLink RX12 540 "OptimaWorksModel" "binders" "I") (by decide +kernel)) (fun _ h9 => h9) rfl (by decide +kernel) rfl rfl (Nat.le_of_ble_eq_true rfl) dX12_fresh_12 (fun H locs hP hD hS => ?_)
  have hP : va_P (dC, dI) vwCl (WR a k h0 (fT (fT (fT vi 52 0) 60 0) 30 0) vj vF vG) H := fz_w (WR_i 30 _ rfl) hP
  have hD : va_D A (WR a k h0 (fT (fT (fT vi 52 0) 60 0) 30 0) vj vF vG) := fz_wD (WR_i 30 _ rfl) hD
  refine lv_aload_n hx hb dX12_fresh_15 rfl (lv_at hl 0 rfl) ?_
  refine lv_iconst (v := 0) hx hb dX12_fresh_16 (by decide) ?_
  refine va_put (D := (dC, dI)) (ci := 12) (v := .int 0) (ty := .int) (C := RX12) (T := TX12) (N := 163) (fs := fM (vS a (fT (fT (fT vi 52 0) 60 0) 30 0) vj)) hx hb hts iwsRX12_fresh_in12 tyX12 tyX12_ok nmX12 hown hK hP hD hS 0 rfl rfl 75 (by decide) (hts (.fieldLink RX12 570 "OptimaWorksModel" "within" "I") (by decide +kernel)) (fun _ h9 => h9) rfl (by decide +kernel) rfl rfl (Nat.le_of_ble_eq_true rfl) dX12_fresh_17 (fun H locs hP hD hS => ?_)
  have hP : va_P (dC, dI) vwCl (WR a k h0 (fT (fT (fT (fT vi 52 0) 60 0) 30 0) 75 0) vj vF vG) H := fz_w (WR_i 75 _ rfl) hP
  have hD : va_D A (WR a k h0 (fT (fT (fT (fT vi 52 0) 60 0) 30 0) 75 0) vj vF vG) := fz_wD (WR_i 75 _ rfl) hD
  refine lv_aload_n hx hb dX12_fresh_20 rfl (lv_at hl 0 rfl) ?_
  refine lv_iconst (v := 0) hx hb dX12_fresh_21 (by decide) ?_
  refine va_put (D := (dC, dI)) (ci := 12) (v := .int 0) (ty := .int) (C := RX12) (T := TX12) (N := 163) (fs := fM (vS a (fT (fT (fT (fT vi 52 0) 60 0) 30 0) 75 0) vj)) hx hb hts iwsRX12_fresh_in12 tyX12 tyX12_ok nmX12 hown hK hP hD hS 0 rfl rfl 109 (by decide) (hts (.fieldLink RX12 699 "OptimaWorksModel" "partMany" "I") (by decide +kernel)) (fun _ h9 => h9) rfl (by decide +kernel) rfl rfl (Nat.le_of_ble_eq_true rfl) dX12_fresh_22 (fun H locs hP hD hS => ?_)
  have hP : va_P (dC, dI) vwCl (WR a k h0 (fT (fT (fT (fT (fT vi 52 0) 60 0) 30 0) 75 0) 109 0) vj vF vG) H := fz_w (WR_i 109 _ rfl) hP
  have hD : va_D A (WR a k h0 (fT (fT (fT (fT (fT vi 52 0) 60 0) 30 0) 75 0) 109 0) vj vF vG) := fz_wD (WR_i 109 _ rfl) hD
  refine lv_aload_n hx hb dX12_fresh_25 rfl (lv_at hl 0 rfl) ?_
  refine lv_iconst (v := 0) hx hb dX12_fresh_26 (by decide) ?_
  refine va_put (D := (dC, dI)) (ci := 12) (v := .int 0) (ty := .int) (C := RX12) (T := TX12) (N := 163) (fs := fM (vS a (fT (fT (fT (fT (fT vi 52 0) 60 0) 30 0) 75 0) 109 0) vj)) hx hb hts iwsRX12_fresh_in12 tyX12 tyX12_ok nmX12 hown hK hP hD hS 0 rfl rfl 81 (by decide) (hts (.fieldLink RX12 659 "OptimaWorksModel" "piled" "I") (by decide +kernel)) (fun _ h9 => h9) rfl (by decide +kernel) rfl rfl (Nat.le_of_ble_eq_true rfl) dX12_fresh_27 (fun H locs hP hD hS => ?_)
  have hP : va_P (dC, dI) vwCl (WR a k h0 (fT (fT (fT (fT (fT (fT vi 52 0) 60 0) 30 0) 75 0) 109 0) 81 0) vj vF vG) H := fz_w (WR_i 81 _ rfl) hP
  have hD : va_D A (WR a k h0 (fT (fT (fT (fT (fT (fT vi 52 0) 60 0) 30 0) 75 0) 109 0) 81 0) vj vF vG) := fz_wD (WR_i 81 _ rfl) hD
  refine lv_aload_n hx hb dX12_fresh_30 rfl (lv_at hl 0 rfl) ?_
  refine lv_iconst (v := 0) hx hb dX12_fresh_31 (by decide) ?_
  refine va_put (D := (dC, dI)) (ci := 12) (v := .int 0) (ty := .int) (C := RX12) (T := TX12) (N := 163) (fs := fM (vS a (fT (fT (fT (fT (fT (fT vi 52 0) 60 0) 30 0) 75 0) 109 0) 81 0) vj)) hx hb hts iwsRX12_fresh_in12 tyX12 tyX12_ok nmX12 hown hK hP hD hS 0 rfl rfl 82 (by decide) (hts (.fieldLink RX12 641 "OptimaWorksModel" "steps" "I") (by decide +kernel)) (fun _ h9 => h9) rfl (by decide +kernel) rfl rfl (Nat.le_of_ble_eq_true rfl) dX12_fresh_32 (fun H locs hP hD hS => ?_)
  have hP : va_P (dC, dI) vwCl (WR a k h0 (fT (fT (fT (fT (fT (fT (fT vi 52 0) 60 0) 30 0) 75 0) 109 0) 81 0) 82 0) vj vF vG) H := fz_w (WR_i 82 _ rfl) hP
  have hD : va_D A (WR a k h0 (fT (fT (fT (fT (fT (fT (fT vi 52 0) 60 0) 30 0) 75 0) 109 0) 81 0) 82 0) vj vF vG) := fz_wD (WR_i 82 _ rfl) hD
  refine lv_aload_n hx hb dX12_fresh_35 rfl (lv_at hl 0 rfl) ?_
  refine lv_iconst (v := (-1)) hx hb dX12_fresh_36 (by decide) ?_
  refine va_put (D := (dC, dI)) (ci := 12) (v := .int (-1)) (ty := .int) (C := RX12) (T := TX12) (N := 163) (fs := fM (vS a (fT (fT (fT (fT (fT (fT (fT vi 52 0) 60 0) 30 0) 75 0) 109 0) 81 0) 82 0) vj)) hx hb hts iwsRX12_fresh_in12 tyX12 tyX12_ok nmX12 hown hK hP hD hS 0 rfl rfl 33 (by decide) (hts (.fieldLink RX12 68 "OptimaWorksModel" "ownFrom" "I") (by decide +kernel)) (fun _ h9 => h9) rfl (by decide +kernel) rfl rfl (Nat.le_of_ble_eq_true rfl) dX12_fresh_37 (fun H locs hP hD hS => ?_)
  have hP : va_P (dC, dI) vwCl (WR a k h0 (fT (fT (fT (fT (fT (fT (fT (fT vi 52 0) 60 0) 30 0) 75 0) 109 0) 81 0) 82 0) 33 (-1)) vj vF vG) H := fz_w (WR_i 33 _ rfl) hP
  have hD : va_D A (WR a k h0 (fT (fT (fT (fT (fT (fT (fT (fT vi 52 0) 60 0) 30 0) 75 0) 109 0) 81 0) 82 0) 33 (-1)) vj vF vG) := fz_wD (WR_i 33 _ rfl) hD
  refine lv_aload_n hx hb dX12_fresh_40 rfl (lv_at hl 0 rfl) ?_
  refine lv_aload_n hx hb dX12_fresh_41 rfl (lv_at hl 0 rfl) ?_
  refine va_get (D := (dC, dI)) (ci := 12) (v := .int (vi 19)) (C := RX12) (T := TX12) (N := 163) (fs := fM (vS a (fT (fT (fT (fT (fT (fT (fT (fT vi 52 0) 60 0) 30 0) 75 0) 109 0) 81 0) 82 0) 33 (-1)) vj)) hx hb hts iwsRX12_fresh_in12 hown hK hP 0 rfl rfl 19 (by decide) (hts (.fieldLink RX12 488 "OptimaWorksModel" "from" "I") (by decide +kernel)) (fun _ h9 => h9) rfl dX12_fresh_42 ?_
  refine va_put (D := (dC, dI)) (ci := 12) (v := .int (vi 19)) (ty := .int) (C := RX12) (T := TX12) (N := 163) (fs := fM (vS a (fT (fT (fT (fT (fT (fT (fT (fT vi 52 0) 60 0) 30 0) 75 0) 109 0) 81 0) 82 0) 33 (-1)) vj)) hx hb hts iwsRX12_fresh_in12 tyX12 tyX12_ok nmX12 hown hK hP hD hS 0 rfl rfl 83 (by decide) (hts (.fieldLink RX12 644 "OptimaWorksModel" "begun" "I") (by decide +kernel)) (fun _ h9 => h9) rfl (by decide +kernel) rfl rfl (Nat.le_of_ble_eq_true rfl) dX12_fresh_45 (fun H locs hP hD hS => ?_)
  have hP : va_P (dC, dI) vwCl (WR a k h0 (fT (fT (fT (fT (fT (fT (fT (fT (fT vi 52 0) 60 0) 30 0) 75 0) 109 0) 81 0) 82 0) 33 (-1)) 83 (vi 19)) vj vF vG) H := fz_w (WR_i 83 _ rfl) hP
  have hD : va_D A (WR a k h0 (fT (fT (fT (fT (fT (fT (fT (fT (fT vi 52 0) 60 0) 30 0) 75 0) 109 0) 81 0) 82 0) 33 (-1)) 83 (vi 19)) vj vF vG) := fz_wD (WR_i 83 _ rfl) hD
  refine W.widen (k := 0) (n := 0) (by decide +kernel) (by decide +kernel) ?_
  exact W.vret hx hb hr (fun t9_ ht hW => ⟨⟨(), rfl, trivial, by rw [ht]; exact hP, hD⟩, hS.F ht⟩) hS.2.2 dX12_fresh_48
theorem dX12_grow_0 : decode cX12_grow 0 = .ok (.aload_n 0, 1) := dk_42 (by decide +kernel)
theorem dX12_grow_1 : decode cX12_grow 1 = .ok (.dup, 1) := dk_89 (by decide +kernel)
theorem dX12_grow_2 : decode cX12_grow 2 = .ok (.getfield 780, 3) := dk_180 (by decide +kernel)
theorem dX12_grow_5 : decode cX12_grow 5 = .ok (.iload_n 1, 1) := dk_27 (by decide +kernel)
theorem dX12_grow_6 : decode cX12_grow 6 = .ok (.imul, 1) := dk_104 (by decide +kernel)
theorem dX12_grow_7 : decode cX12_grow 7 = .ok (.putfield 780, 3) := dk_181 (by decide +kernel)
theorem dX12_grow_10 : decode cX12_grow 10 = .ok (.aload_n 0, 1) := dk_42 (by decide +kernel)
theorem dX12_grow_11 : decode cX12_grow 11 = .ok (.getfield 780, 3) := dk_180 (by decide +kernel)
theorem dX12_grow_14 : decode cX12_grow 14 = .ok (.bipush 64, 2) := dk_16 (by decide +kernel)
theorem dX12_grow_16 : decode cX12_grow 16 = .ok (.if_icmp .le 10, 3) := dk_164 (by decide +kernel)
theorem dX12_grow_19 : decode cX12_grow 19 = .ok (.aload_n 0, 1) := dk_42 (by decide +kernel)
theorem dX12_grow_20 : decode cX12_grow 20 = .ok (.bipush 11, 2) := dk_16 (by decide +kernel)
theorem dX12_grow_22 : decode cX12_grow 22 = .ok (.iload_n 2, 1) := dk_28 (by decide +kernel)
theorem dX12_grow_23 : decode cX12_grow 23 = .ok (.invokevirtual 518, 3) := dk_182 (by decide +kernel)
theorem dX12_grow_26 : decode cX12_grow 26 = .ok (.return_, 1) := dk_177 (by decide +kernel)
def wsRX12_grow : List Cond := .code yX12_grow cX12_grow 3 none :: ([.fieldLink RX12 780 "OptimaWorksModel" "cases" "I"] ++ wsX120 ++ (wsV RX12 518 RX12 yX12_faultAt wsRX12_faultAt))
theorem iwsRX12_grow_in12 : ∀ w ∈ wsX120, w ∈ wsRX12_grow := fun _ h => List.mem_cons_of_mem _ (List.mem_append_left _ (List.mem_append_right _ h))
theorem gwsRX12_grow_0 : GoodIn wsRX12_grow (wsV RX12 518 RX12 yX12_faultAt wsRX12_faultAt) := goodIn_sub (fun _ h => List.mem_cons_of_mem _ (List.mem_append_right _ h)) (gdV (by decide +kernel) gdwsRX12_faultAt)
theorem gdwsRX12_grow : wsRX12_grow.all goodWord = true := gdC rfl (gdA (gdA (by decide +kernel : ([.fieldLink RX12 780 "OptimaWorksModel" "cases" "I"] : List Cond).all goodWord = true) gdwsX120) (gdV (by decide +kernel) gdwsRX12_faultAt))
theorem hm_r_X12_grow_0 : (.fieldLink RX12 780 "OptimaWorksModel" "cases" "I" : Cond) ∈ wsRX12_grow := by decide +kernel
set_option maxHeartbeats 4000000 in
set_option maxRecDepth 100000 in
/-- grow(by, p) -/
theorem r_X12_grow (l : Launch) (dC : Nat → ClassId) (dI : Nat → Nat → Nat) (a : Nat → Nat) (k : Nat → ClassId) (h0 : Nat) (vi : Nat → Int32) (vj : Nat → Int64) (vF : Nat → Nat → Int32) (vG : Nat → Nat → Int64) (bI : Int32) (pI : Int32) (hst0 : 0 ≤ (vi 21).toInt) (sz : Nat) : Met l yX12_grow wsRX12_grow ({ frames := 1, cells := 0, slots := 0, locals := 22 }) (va_Pc [.ref h0, .int bI, .int pI] (fun U => U.heap.size = sz ∧ va_P (dC, dI) vwCl (WR a k h0 vi vj vF vG) U.heap ∧ va_K (dC, dI) vwCl (tX12 k) U ∧ va_D (fun _ => True) (WR a k h0 vi vj vF vG))) (va_Qv (fun (u : (Int32) × (Int32) × (Int32)) => (0 ≤ ((u.2.1)).toInt) ∧ ((u.2.1) = vi 21 ∨ 0 < ((u.2.1)).toInt)) (fun (u : (Int32) × (Int32) × (Int32)) t => va_P (dC, dI) vwCl (WR a k h0 (fT (fT (fT vi 94 (u.1)) 21 (u.2.1)) 22 (u.2.2)) vj vF vG) t.heap ∧ va_D (va_A (WR a k h0 vi vj vF vG) sz) (WR a k h0 (fT (fT (fT vi 94 (u.1)) 21 (u.2.1)) 22 (u.2.2)) vj vF vG)) (va_A (WR a k h0 vi vj vF vG) sz)) 0 0 (va_A (WR a k h0 vi vj vF vG) sz) := by
  refine Met.ofW (cc := cX12_grow) (maxL := 3) (ret := none) (by decide) rfl ?_
  intro p e s m args below meth c s₁ B hml hv
  obtain ⟨rfl, hsz, hP, hK, hD0⟩ := hv
  have hx := B.exec
  have hb := B.bytes
  have hr := B.returns
  have hts := atoms_spec (ws := wsRX12_grow) B.pre
  have hown : s.vm.findClass RX12 = some m.cls := findClass_of_methodNamed B.named
  have hlocks := B.notSynchronized
  subst hsz
  have hD := hD0.self (sz := s.heap.size)
  generalize hAe : va_A (WR a k h0 vi vj vF vG) s.heap.size = A at hD ⊢
  have hA : ∀ q : Nat, s.heap.size ≤ q → A q := fun q h => by rw [← hAe]; exact Or.inr h
  have hS : va_S A s.heap s.heap [] := va_S.rf
  have hl := lv_entry ([.ref h0, .int bI, .int pI]) (n := 3) (Nat.le_of_ble_eq_true rfl)
  rw [lg_entry_eq]
  generalize (lg_sl ([.ref h0, .int bI, .int pI]) ++ List.replicate (3 - (lg_sl ([.ref h0, .int bI, .int pI])).length) Slot.unset).toArray = ls at hl ⊢
  have hl : lv_has ls 3 [(0, .ref h0), (1, .int bI), (2, .int pI)] := hl
  refine lv_aload_n hx hb dX12_grow_0 rfl (lv_at hl 0 rfl) ?_
  refine lv_dup hx hb dX12_grow_1 rfl ?_
  refine va_get (D := (dC, dI)) (ci := 12) (v := .int (vi 94)) (C := RX12) (T := TX12) (N := 163) (fs := fM (vS a vi vj)) hx hb hts iwsRX12_grow_in12 hown hK hP 0 rfl rfl 94 (by decide) (hts _ hm_r_X12_grow_0) (fun _ h9 => h9) rfl dX12_grow_2 ?_
  refine lv_iload_n hx hb dX12_grow_5 rfl (lv_at hl 1 rfl) ?_
  refine lv_imul hx hb dX12_grow_6 ?_
  refine va_put (D := (dC, dI)) (ci := 12) (v := .int ((vi 94) * bI)) (ty := .int) (C := RX12) (T := TX12) (N := 163) (fs := fM (vS a vi vj)) hx hb hts iwsRX12_grow_in12 tyX12 tyX12_ok nmX12 hown hK hP hD hS 0 rfl rfl 94 (by decide) (hts _ hm_r_X12_grow_0) (fun _ h9 => h9) rfl (by decide +kernel) rfl rfl (Nat.le_of_ble_eq_true rfl) dX12_grow_7 (fun H locs hP hD hS => ?_)
  have hP : va_P (dC, dI) vwCl (WR a k h0 (fT vi 94 ((vi 94) * bI)) vj vF vG) H := fz_w (WR_i 94 _ rfl) hP
  have hD : va_D A (WR a k h0 (fT vi 94 ((vi 94) * bI)) vj vF vG) := fz_wD (WR_i 94 _ rfl) hD
  refine lv_aload_n hx hb dX12_grow_10 rfl (lv_at hl 0 rfl) ?_
  refine va_get (D := (dC, dI)) (ci := 12) (v := .int ((vi 94) * bI)) (C := RX12) (T := TX12) (N := 163) (fs := fM (vS a (fT vi 94 ((vi 94) * bI)) vj)) hx hb hts iwsRX12_grow_in12 hown hK hP 0 rfl rfl 94 (by decide) (hts _ hm_r_X12_grow_0) (fun _ h9 => h9) rfl dX12_grow_11 ?_
  refine lv_bipush (v := 64) hx hb dX12_grow_14 (by decide) ?_
  refine lv_icmp_le (tgt := 26) hx hb dX12_grow_16 (by decide) (fun c_16 => ?_) (fun c_16 => ?_)
  · have t_16 : (((vi 94) * bI)).toInt ≤ 64 := toI_le c_16 rfl (by decide)
    refine W.widen (k := 0) (n := 0) (by decide +kernel) (by decide +kernel) ?_
    have e9 : fT (fT (fT vi 94 ((vi 94) * bI)) 21 (vi 21)) 22 (vi 22) = fT vi 94 ((vi 94) * bI) := (fT_id _ _ ((fT_ne _ _ (Nat.ne_of_beq_eq_false rfl)).trans (fT_ne _ _ (Nat.ne_of_beq_eq_false rfl)))).trans (fT_id _ _ (fT_ne _ _ (Nat.ne_of_beq_eq_false rfl)))
    have hP := wr_Pi e9 hP
    have hD := wr_Di e9 hD
    clear e9
    exact W.vret hx hb hr (fun t9_ ht hW => ⟨⟨(((vi 94) * bI), (vi 21), (vi 22)), rfl, by (try dsimp only); exact ⟨hst0, Or.inl rfl⟩, by rw [ht]; exact hP, hD⟩, hS.F ht⟩) hS.2.2 dX12_grow_26
  · have t_16 : ¬ (((vi 94) * bI)).toInt ≤ 64 := toI_nle c_16 rfl (by decide)
    refine lv_aload_n hx hb dX12_grow_19 rfl (lv_at hl 0 rfl) ?_
    refine lv_bipush (v := 11) hx hb dX12_grow_20 (by decide) ?_
    refine lv_iload_n hx hb dX12_grow_22 rfl (lv_at hl 2 rfl) ?_
    have hFc := allFree hD hS hA
    refine va_callv (va_runV (As := [.int 11, .int pI]) (rest := []) ⟨hx, hb, hml, hown, hts⟩ (r_X12_faultAt l dC dI a k h0 (fT vi 94 ((vi 94) * bI)) vj vF vG 11 pI (by first | with_reducible assumption | decide | omega | rfl | assumption) H.size) (cwV 2 hts gwsRX12_grow_0 rfl rfl rfl hd_yX12_faultAt_RX12 (by decide +kernel)) (fz_pre (va_recv hK hP (ci := 12) (q0 := 0) rfl rfl) hP hK hD) rfl rfl hl.1 rfl (lv_room (Nat.le_of_ble_eq_true rfl)) dX12_grow_23 (by decide +kernel)) hS (fun q _ h => hFc q h) hFc (fun u t9_ H locs ht hvm hw9 hB9 hz1 hk1 hS => ?_)
    revert u hw9 hB9
    refine fz_p2 ?_
    intro s223 p223 hw9 hB9
    try dsimp only at hw9 hB9
    have hP : va_P (dC, dI) vwCl (WR a k h0 (fT (fT (fT vi 94 ((vi 94) * bI)) 21 s223) 22 p223) vj vF vG) H := fz_P ht hB9.1
    have hD := fz_sd hP (hB9.2.weaken (fun _ q _ h => hFc q.1 h)) rfl
    revert hw9
    refine fz_a2 ?_
    intro f23_0 f23_1
    have f23_0 : (0 < (vi 21).toInt ∧ s223 = (vi 21) ∧ p223 = (vi 22)) ∨ (¬ 0 < (vi 21).toInt ∧ s223 = 11 ∧ p223 = pI) := f23_0
    refine W.widen (k := 0) (n := 0) (by decide +kernel) (by decide +kernel) ?_
    exact W.vret hx hb hr (fun t9_ ht hW => ⟨⟨(((vi 94) * bI), s223, p223), rfl, by (try dsimp only); exact ⟨by omega, Or.inr f23_1⟩, by rw [ht]; exact hP, hD⟩, hS.F ht⟩) hS.2.2 dX12_grow_26
theorem dX12_declare_0 : decode cX12_declare 0 = .ok (.aload_n 0, 1) := dk_42 (by decide +kernel)
theorem dX12_declare_1 : decode cX12_declare 1 = .ok (.getfield 50, 3) := dk_180 (by decide +kernel)
theorem dX12_declare_4 : decode cX12_declare 4 = .ok (.aload_n 0, 1) := dk_42 (by decide +kernel)
theorem dX12_declare_5 : decode cX12_declare 5 = .ok (.getfield 533, 3) := dk_180 (by decide +kernel)
theorem dX12_declare_8 : decode cX12_declare 8 = .ok (.iload_n 1, 1) := dk_27 (by decide +kernel)
theorem dX12_declare_9 : decode cX12_declare 9 = .ok (.iastore, 1) := dk_79 (by decide +kernel)
theorem dX12_declare_10 : decode cX12_declare 10 = .ok (.aload_n 0, 1) := dk_42 (by decide +kernel)
theorem dX12_declare_11 : decode cX12_declare 11 = .ok (.getfield 53, 3) := dk_180 (by decide +kernel)
theorem dX12_declare_14 : decode cX12_declare 14 = .ok (.aload_n 0, 1) := dk_42 (by decide +kernel)
theorem dX12_declare_15 : decode cX12_declare 15 = .ok (.getfield 533, 3) := dk_180 (by decide +kernel)
theorem dX12_declare_18 : decode cX12_declare 18 = .ok (.aload_n 0, 1) := dk_42 (by decide +kernel)
theorem dX12_declare_19 : decode cX12_declare 19 = .ok (.getfield 68, 3) := dk_180 (by decide +kernel)
theorem dX12_declare_22 : decode cX12_declare 22 = .ok (.iastore, 1) := dk_79 (by decide +kernel)
theorem dX12_declare_23 : decode cX12_declare 23 = .ok (.aload_n 0, 1) := dk_42 (by decide +kernel)
theorem dX12_declare_24 : decode cX12_declare 24 = .ok (.getfield 56, 3) := dk_180 (by decide +kernel)
theorem dX12_declare_27 : decode cX12_declare 27 = .ok (.aload_n 0, 1) := dk_42 (by decide +kernel)
theorem dX12_declare_28 : decode cX12_declare 28 = .ok (.getfield 533, 3) := dk_180 (by decide +kernel)
theorem dX12_declare_31 : decode cX12_declare 31 = .ok (.aload_n 0, 1) := dk_42 (by decide +kernel)
theorem dX12_declare_32 : decode cX12_declare 32 = .ok (.getfield 552, 3) := dk_180 (by decide +kernel)
theorem dX12_declare_35 : decode cX12_declare 35 = .ok (.iastore, 1) := dk_79 (by decide +kernel)
theorem dX12_declare_36 : decode cX12_declare 36 = .ok (.aload_n 0, 1) := dk_42 (by decide +kernel)
theorem dX12_declare_37 : decode cX12_declare 37 = .ok (.getfield 59, 3) := dk_180 (by decide +kernel)
theorem dX12_declare_40 : decode cX12_declare 40 = .ok (.aload_n 0, 1) := dk_42 (by decide +kernel)
theorem dX12_declare_41 : decode cX12_declare 41 = .ok (.getfield 533, 3) := dk_180 (by decide +kernel)
theorem dX12_declare_44 : decode cX12_declare 44 = .ok (.iload_n 2, 1) := dk_28 (by decide +kernel)
theorem dX12_declare_45 : decode cX12_declare 45 = .ok (.iastore, 1) := dk_79 (by decide +kernel)
theorem dX12_declare_46 : decode cX12_declare 46 = .ok (.aload_n 0, 1) := dk_42 (by decide +kernel)
theorem dX12_declare_47 : decode cX12_declare 47 = .ok (.dup, 1) := dk_89 (by decide +kernel)
theorem dX12_declare_48 : decode cX12_declare 48 = .ok (.getfield 533, 3) := dk_180 (by decide +kernel)
theorem dX12_declare_51 : decode cX12_declare 51 = .ok (.iconst 1, 1) := dk_4 (by decide +kernel)
theorem dX12_declare_52 : decode cX12_declare 52 = .ok (.iadd, 1) := dk_96 (by decide +kernel)
theorem dX12_declare_53 : decode cX12_declare 53 = .ok (.putfield 533, 3) := dk_181 (by decide +kernel)
theorem dX12_declare_56 : decode cX12_declare 56 = .ok (.return_, 1) := dk_177 (by decide +kernel)
def wsRX12_declare : List Cond := .code yX12_declare cX12_declare 3 none :: ([.fieldLink RX12 50 "OptimaWorksModel" "nameKind" "[I", .fieldLink RX12 533 "OptimaWorksModel" "names" "I", .fieldLink RX12 53 "OptimaWorksModel" "nameFrom" "[I", .fieldLink RX12 68 "OptimaWorksModel" "ownFrom" "I", .fieldLink RX12 56 "OptimaWorksModel" "nameLong" "[I", .fieldLink RX12 552 "OptimaWorksModel" "ownLong" "I", .fieldLink RX12 59 "OptimaWorksModel" "nameOf" "[I"] ++ wsX120)
theorem iwsRX12_declare_in12 : ∀ w ∈ wsX120, w ∈ wsRX12_declare := fun _ h => List.mem_cons_of_mem _ (List.mem_append_right _ h)
theorem gdwsRX12_declare : wsRX12_declare.all goodWord = true := gdC rfl (gdA (by decide +kernel : ([.fieldLink RX12 50 "OptimaWorksModel" "nameKind" "[I", .fieldLink RX12 533 "OptimaWorksModel" "names" "I", .fieldLink RX12 53 "OptimaWorksModel" "nameFrom" "[I", .fieldLink RX12 68 "OptimaWorksModel" "ownFrom" "I", .fieldLink RX12 56 "OptimaWorksModel" "nameLong" "[I", .fieldLink RX12 552 "OptimaWorksModel" "ownLong" "I", .fieldLink RX12 59 "OptimaWorksModel" "nameOf" "[I"] : List Cond).all goodWord = true) gdwsX120)
theorem hm_r_X12_declare_0 : (.fieldLink RX12 533 "OptimaWorksModel" "names" "I" : Cond) ∈ wsRX12_declare := by decide +kernel
set_option maxHeartbeats 4000000 in
set_option maxRecDepth 100000 in
/-- declare(k, of) -/
theorem r_X12_declare (l : Launch) (dC : Nat → ClassId) (dI : Nat → Nat → Nat) (a : Nat → Nat) (k : Nat → ClassId) (h0 : Nat) (vi : Nat → Int32) (vj : Nat → Int64) (vF : Nat → Nat → Int32) (vG : Nat → Nat → Int64) (kv : Int32) (ov : Int32) (nm : Nat) (hnm : vi 25 = nI nm) (hnm44 : nm < 44) (sz : Nat) : Met l yX12_declare wsRX12_declare ({ frames := 0, cells := 0, slots := 0, locals := 0 }) (va_Pc [.ref h0, .int kv, .int ov] (fun U => U.heap.size = sz ∧ va_P (dC, dI) vwCl (WR a k h0 vi vj vF vG) U.heap ∧ va_K (dC, dI) vwCl (tX12 k) U ∧ va_D (fun _ => True) (WR a k h0 vi vj vF vG))) (va_Qv (fun (u : Unit) => True) (fun (u : Unit) t => va_P (dC, dI) vwCl (WR a k h0 (fT vi 25 (nI (nm + 1))) vj (fT (fT (fT (fT vF 10 (upd (vF 10) (nI nm).toNatClampNeg kv)) 11 (upd (vF 11) (nI nm).toNatClampNeg (vi 33))) 12 (upd (vF 12) (nI nm).toNatClampNeg (vi 34))) 13 (upd (vF 13) (nI nm).toNatClampNeg ov)) vG) t.heap ∧ va_D (va_A (WR a k h0 vi vj vF vG) sz) (WR a k h0 (fT vi 25 (nI (nm + 1))) vj (fT (fT (fT (fT vF 10 (upd (vF 10) (nI nm).toNatClampNeg kv)) 11 (upd (vF 11) (nI nm).toNatClampNeg (vi 33))) 12 (upd (vF 12) (nI nm).toNatClampNeg (vi 34))) 13 (upd (vF 13) (nI nm).toNatClampNeg ov)) vG)) (va_A (WR a k h0 vi vj vF vG) sz)) 0 0 (va_A (WR a k h0 vi vj vF vG) sz) := by
  refine Met.ofW (cc := cX12_declare) (maxL := 3) (ret := none) (by decide) rfl ?_
  intro p e s m args below meth c s₁ B hml hv
  obtain ⟨rfl, hsz, hP, hK, hD0⟩ := hv
  have hx := B.exec
  have hb := B.bytes
  have hr := B.returns
  have hts := atoms_spec (ws := wsRX12_declare) B.pre
  have hown : s.vm.findClass RX12 = some m.cls := findClass_of_methodNamed B.named
  have hlocks := B.notSynchronized
  subst hsz
  have hD := hD0.self (sz := s.heap.size)
  generalize hAe : va_A (WR a k h0 vi vj vF vG) s.heap.size = A at hD ⊢
  have hA : ∀ q : Nat, s.heap.size ≤ q → A q := fun q h => by rw [← hAe]; exact Or.inr h
  have hS : va_S A s.heap s.heap [] := va_S.rf
  have hl := lv_entry ([.ref h0, .int kv, .int ov]) (n := 3) (Nat.le_of_ble_eq_true rfl)
  rw [lg_entry_eq]
  generalize (lg_sl ([.ref h0, .int kv, .int ov]) ++ List.replicate (3 - (lg_sl ([.ref h0, .int kv, .int ov])).length) Slot.unset).toArray = ls at hl ⊢
  have hl : lv_has ls 3 [(0, .ref h0), (1, .int kv), (2, .int ov)] := hl
  refine lv_aload_n hx hb dX12_declare_0 rfl (lv_at hl 0 rfl) ?_
  refine va_get (D := (dC, dI)) (ci := 12) (v := .ref (a 10)) (C := RX12) (T := TX12) (N := 163) (fs := fM (vS a vi vj)) hx hb hts iwsRX12_declare_in12 hown hK hP 0 rfl rfl 26 (by decide) (hts (.fieldLink RX12 50 "OptimaWorksModel" "nameKind" "[I") (by decide +kernel)) (fun _ h9 => h9) rfl dX12_declare_1 ?_
  refine lv_aload_n hx hb dX12_declare_4 rfl (lv_at hl 0 rfl) ?_
  refine va_get (D := (dC, dI)) (ci := 12) (v := .int (vi 25)) (C := RX12) (T := TX12) (N := 163) (fs := fM (vS a vi vj)) hx hb hts iwsRX12_declare_in12 hown hK hP 0 rfl rfl 25 (by decide) (hts _ hm_r_X12_declare_0) (fun _ h9 => h9) rfl dX12_declare_5 ?_
  refine lv_topi (fun y1 hy1 => ?_)
  obtain rfl : (nI nm) = y1 := (hy1.trans (hnm)).symm
  refine lv_iload_n hx hb dX12_declare_8 rfl (lv_at hl 1 rfl) ?_
  refine va_iast (cA := k 10) (n := 44) (f := (vF 10)) hx hb hK hP hD hS 11 10 (WR_get 10 (by decide)) (TR_get 10 (by decide)) (vp_in_nI (show nm < 44 by omega) (by omega)) dX12_declare_9 (fun H locs hP hD hS => ?_)
  have hP : va_P (dC, dI) vwCl (WR a k h0 vi vj (fT vF 10 (upd (vF 10) ((nI nm)).toNatClampNeg kv)) vG) H := fz_w (WR_F 10 (by decide) _ rfl) hP
  have hD : va_D A (WR a k h0 vi vj (fT vF 10 (upd (vF 10) ((nI nm)).toNatClampNeg kv)) vG) := fz_wD (WR_F 10 (by decide) _ rfl) hD
  refine lv_aload_n hx hb dX12_declare_10 rfl (lv_at hl 0 rfl) ?_
  refine va_get (D := (dC, dI)) (ci := 12) (v := .ref (a 11)) (C := RX12) (T := TX12) (N := 163) (fs := fM (vS a vi vj)) hx hb hts iwsRX12_declare_in12 hown hK hP 0 rfl rfl 27 (by decide) (hts (.fieldLink RX12 53 "OptimaWorksModel" "nameFrom" "[I") (by decide +kernel)) (fun _ h9 => h9) rfl dX12_declare_11 ?_
  refine lv_aload_n hx hb dX12_declare_14 rfl (lv_at hl 0 rfl) ?_
  refine va_get (D := (dC, dI)) (ci := 12) (v := .int (vi 25)) (C := RX12) (T := TX12) (N := 163) (fs := fM (vS a vi vj)) hx hb hts iwsRX12_declare_in12 hown hK hP 0 rfl rfl 25 (by decide) (hts _ hm_r_X12_declare_0) (fun _ h9 => h9) rfl dX12_declare_15 ?_
  refine lv_topi (fun y2 hy2 => ?_)
  obtain rfl : (nI nm) = y2 := (hy2.trans (hnm)).symm
  refine lv_aload_n hx hb dX12_declare_18 rfl (lv_at hl 0 rfl) ?_
  refine va_get (D := (dC, dI)) (ci := 12) (v := .int (vi 33)) (C := RX12) (T := TX12) (N := 163) (fs := fM (vS a vi vj)) hx hb hts iwsRX12_declare_in12 hown hK hP 0 rfl rfl 33 (by decide) (hts (.fieldLink RX12 68 "OptimaWorksModel" "ownFrom" "I") (by decide +kernel)) (fun _ h9 => h9) rfl dX12_declare_19 ?_
  refine va_iast (cA := k 11) (n := 44) (f := (vF 11)) hx hb hK hP hD hS 12 11 (WR_get 11 (by decide)) (TR_get 11 (by decide)) (vp_in_nI (show nm < 44 by omega) (by omega)) dX12_declare_22 (fun H locs hP hD hS => ?_)
  have hP : va_P (dC, dI) vwCl (WR a k h0 vi vj (fT (fT vF 10 (upd (vF 10) ((nI nm)).toNatClampNeg kv)) 11 (upd (vF 11) ((nI nm)).toNatClampNeg (vi 33))) vG) H := fz_w (WR_F 11 (by decide) _ rfl) hP
  have hD : va_D A (WR a k h0 vi vj (fT (fT vF 10 (upd (vF 10) ((nI nm)).toNatClampNeg kv)) 11 (upd (vF 11) ((nI nm)).toNatClampNeg (vi 33))) vG) := fz_wD (WR_F 11 (by decide) _ rfl) hD
  refine lv_aload_n hx hb dX12_declare_23 rfl (lv_at hl 0 rfl) ?_
  refine va_get (D := (dC, dI)) (ci := 12) (v := .ref (a 12)) (C := RX12) (T := TX12) (N := 163) (fs := fM (vS a vi vj)) hx hb hts iwsRX12_declare_in12 hown hK hP 0 rfl rfl 28 (by decide) (hts (.fieldLink RX12 56 "OptimaWorksModel" "nameLong" "[I") (by decide +kernel)) (fun _ h9 => h9) rfl dX12_declare_24 ?_
  refine lv_aload_n hx hb dX12_declare_27 rfl (lv_at hl 0 rfl) ?_
  refine va_get (D := (dC, dI)) (ci := 12) (v := .int (vi 25)) (C := RX12) (T := TX12) (N := 163) (fs := fM (vS a vi vj)) hx hb hts iwsRX12_declare_in12 hown hK hP 0 rfl rfl 25 (by decide) (hts _ hm_r_X12_declare_0) (fun _ h9 => h9) rfl dX12_declare_28 ?_
  refine lv_topi (fun y3 hy3 => ?_)
  obtain rfl : (nI nm) = y3 := (hy3.trans (hnm)).symm
  refine lv_aload_n hx hb dX12_declare_31 rfl (lv_at hl 0 rfl) ?_
  refine va_get (D := (dC, dI)) (ci := 12) (v := .int (vi 34)) (C := RX12) (T := TX12) (N := 163) (fs := fM (vS a vi vj)) hx hb hts iwsRX12_declare_in12 hown hK hP 0 rfl rfl 34 (by decide) (hts (.fieldLink RX12 552 "OptimaWorksModel" "ownLong" "I") (by decide +kernel)) (fun _ h9 => h9) rfl dX12_declare_32 ?_
  refine va_iast (cA := k 12) (n := 44) (f := (vF 12)) hx hb hK hP hD hS 13 12 (WR_get 12 (by decide)) (TR_get 12 (by decide)) (vp_in_nI (show nm < 44 by omega) (by omega)) dX12_declare_35 (fun H locs hP hD hS => ?_)
  have hP : va_P (dC, dI) vwCl (WR a k h0 vi vj (fT (fT (fT vF 10 (upd (vF 10) ((nI nm)).toNatClampNeg kv)) 11 (upd (vF 11) ((nI nm)).toNatClampNeg (vi 33))) 12 (upd (vF 12) ((nI nm)).toNatClampNeg (vi 34))) vG) H := fz_w (WR_F 12 (by decide) _ rfl) hP
  have hD : va_D A (WR a k h0 vi vj (fT (fT (fT vF 10 (upd (vF 10) ((nI nm)).toNatClampNeg kv)) 11 (upd (vF 11) ((nI nm)).toNatClampNeg (vi 33))) 12 (upd (vF 12) ((nI nm)).toNatClampNeg (vi 34))) vG) := fz_wD (WR_F 12 (by decide) _ rfl) hD
  refine lv_aload_n hx hb dX12_declare_36 rfl (lv_at hl 0 rfl) ?_
  refine va_get (D := (dC, dI)) (ci := 12) (v := .ref (a 13)) (C := RX12) (T := TX12) (N := 163) (fs := fM (vS a vi vj)) hx hb hts iwsRX12_declare_in12 hown hK hP 0 rfl rfl 29 (by decide) (hts (.fieldLink RX12 59 "OptimaWorksModel" "nameOf" "[I") (by decide +kernel)) (fun _ h9 => h9) rfl dX12_declare_37 ?_
  refine lv_aload_n hx hb dX12_declare_40 rfl (lv_at hl 0 rfl) ?_
  refine va_get (D := (dC, dI)) (ci := 12) (v := .int (vi 25)) (C := RX12) (T := TX12) (N := 163) (fs := fM (vS a vi vj)) hx hb hts iwsRX12_declare_in12 hown hK hP 0 rfl rfl 25 (by decide) (hts _ hm_r_X12_declare_0) (fun _ h9 => h9) rfl dX12_declare_41 ?_
  refine lv_topi (fun y4 hy4 => ?_)
  obtain rfl : (nI nm) = y4 := (hy4.trans (hnm)).symm
  refine lv_iload_n hx hb dX12_declare_44 rfl (lv_at hl 2 rfl) ?_
  refine va_iast (cA := k 13) (n := 44) (f := (vF 13)) hx hb hK hP hD hS 14 13 (WR_get 13 (by decide)) (TR_get 13 (by decide)) (vp_in_nI (show nm < 44 by omega) (by omega)) dX12_declare_45 (fun H locs hP hD hS => ?_)
  have hP : va_P (dC, dI) vwCl (WR a k h0 vi vj (fT (fT (fT (fT vF 10 (upd (vF 10) ((nI nm)).toNatClampNeg kv)) 11 (upd (vF 11) ((nI nm)).toNatClampNeg (vi 33))) 12 (upd (vF 12) ((nI nm)).toNatClampNeg (vi 34))) 13 (upd (vF 13) ((nI nm)).toNatClampNeg ov)) vG) H := fz_w (WR_F 13 (by decide) _ rfl) hP
  have hD : va_D A (WR a k h0 vi vj (fT (fT (fT (fT vF 10 (upd (vF 10) ((nI nm)).toNatClampNeg kv)) 11 (upd (vF 11) ((nI nm)).toNatClampNeg (vi 33))) 12 (upd (vF 12) ((nI nm)).toNatClampNeg (vi 34))) 13 (upd (vF 13) ((nI nm)).toNatClampNeg ov)) vG) := fz_wD (WR_F 13 (by decide) _ rfl) hD
  refine lv_aload_n hx hb dX12_declare_46 rfl (lv_at hl 0 rfl) ?_
  refine lv_dup hx hb dX12_declare_47 rfl ?_
  refine va_get (D := (dC, dI)) (ci := 12) (v := .int (vi 25)) (C := RX12) (T := TX12) (N := 163) (fs := fM (vS a vi vj)) hx hb hts iwsRX12_declare_in12 hown hK hP 0 rfl rfl 25 (by decide) (hts _ hm_r_X12_declare_0) (fun _ h9 => h9) rfl dX12_declare_48 ?_
  refine lv_topi (fun y5 hy5 => ?_)
  obtain rfl : (nI nm) = y5 := (hy5.trans (hnm)).symm
  refine lv_iconst (v := 1) hx hb dX12_declare_51 (by decide) ?_
  refine lv_iadd hx hb dX12_declare_52 ?_
  refine lv_topi (fun y6 hy6 => ?_)
  obtain rfl : (nI (nm + 1)) = y6 := (hy6.trans (nI_add nm 1)).symm
  refine va_put (D := (dC, dI)) (ci := 12) (v := .int (nI (nm + 1))) (ty := .int) (C := RX12) (T := TX12) (N := 163) (fs := fM (vS a vi vj)) hx hb hts iwsRX12_declare_in12 tyX12 tyX12_ok nmX12 hown hK hP hD hS 0 rfl rfl 25 (by decide) (hts _ hm_r_X12_declare_0) (fun _ h9 => h9) rfl (by decide +kernel) rfl rfl (Nat.le_of_ble_eq_true rfl) dX12_declare_53 (fun H locs hP hD hS => ?_)
  have hP : va_P (dC, dI) vwCl (WR a k h0 (fT vi 25 (nI (nm + 1))) vj (fT (fT (fT (fT vF 10 (upd (vF 10) ((nI nm)).toNatClampNeg kv)) 11 (upd (vF 11) ((nI nm)).toNatClampNeg (vi 33))) 12 (upd (vF 12) ((nI nm)).toNatClampNeg (vi 34))) 13 (upd (vF 13) ((nI nm)).toNatClampNeg ov)) vG) H := fz_w (WR_i 25 _ rfl) hP
  have hD : va_D A (WR a k h0 (fT vi 25 (nI (nm + 1))) vj (fT (fT (fT (fT vF 10 (upd (vF 10) ((nI nm)).toNatClampNeg kv)) 11 (upd (vF 11) ((nI nm)).toNatClampNeg (vi 33))) 12 (upd (vF 12) ((nI nm)).toNatClampNeg (vi 34))) 13 (upd (vF 13) ((nI nm)).toNatClampNeg ov)) vG) := fz_wD (WR_i 25 _ rfl) hD
  refine W.widen (k := 0) (n := 0) (by decide +kernel) (by decide +kernel) ?_
  have e9 : fT (fT (fT (fT vF 10 (upd (vF 10) (nI nm).toNatClampNeg kv)) 11 (upd (vF 11) (nI nm).toNatClampNeg (vi 33))) 12 (upd (vF 12) (nI nm).toNatClampNeg (vi 34))) 13 (upd (vF 13) (nI nm).toNatClampNeg ov) = fT (fT (fT (fT vF 10 (upd (vF 10) ((nI nm)).toNatClampNeg kv)) 11 (upd (vF 11) ((nI nm)).toNatClampNeg (vi 33))) 12 (upd (vF 12) ((nI nm)).toNatClampNeg (vi 34))) 13 (upd (vF 13) ((nI nm)).toNatClampNeg ov) := ch_E vF [upd (vF 10) (nI nm).toNatClampNeg kv, upd (vF 11) (nI nm).toNatClampNeg (vi 33), upd (vF 12) (nI nm).toNatClampNeg (vi 34), upd (vF 13) (nI nm).toNatClampNeg ov, upd (vF 10) ((nI nm)).toNatClampNeg kv, upd (vF 11) ((nI nm)).toNatClampNeg (vi 33), upd (vF 12) ((nI nm)).toNatClampNeg (vi 34), upd (vF 13) ((nI nm)).toNatClampNeg ov] [(13, 4), (12, 3), (11, 2), (10, 1)] [(13, 8), (12, 7), (11, 6), (10, 5)] [10, 11, 12, 13] ⟨show upd (vF 10) (nI nm).toNatClampNeg kv = upd (vF 10) ((nI nm)).toNatClampNeg kv from (by first | with_reducible rfl | with_reducible assumption | (symm; with_reducible assumption) | rfl | assumption | (symm; assumption) | (subst_vars; rfl)), show upd (vF 11) (nI nm).toNatClampNeg (vi 33) = upd (vF 11) ((nI nm)).toNatClampNeg (vi 33) from (by first | with_reducible rfl | with_reducible assumption | (symm; with_reducible assumption) | rfl | assumption | (symm; assumption) | (subst_vars; rfl)), show upd (vF 12) (nI nm).toNatClampNeg (vi 34) = upd (vF 12) ((nI nm)).toNatClampNeg (vi 34) from (by first | with_reducible rfl | with_reducible assumption | (symm; with_reducible assumption) | rfl | assumption | (symm; assumption) | (subst_vars; rfl)), show upd (vF 13) (nI nm).toNatClampNeg ov = upd (vF 13) ((nI nm)).toNatClampNeg ov from (by first | with_reducible rfl | with_reducible assumption | (symm; with_reducible assumption) | rfl | assumption | (symm; assumption) | (subst_vars; rfl)), trivial⟩ (by decide +kernel)
  have hP := wr_PF e9 hP
  have hD := wr_DF e9 hD
  clear e9
  exact W.vret hx hb hr (fun t9_ ht hW => ⟨⟨(), rfl, trivial, by rw [ht]; exact hP, hD⟩, hS.F ht⟩) hS.2.2 dX12_declare_56
theorem dX12_readSet_0 : decode cX12_readSet 0 = .ok (.aload_n 0, 1) := dk_42 (by decide +kernel)
theorem dX12_readSet_1 : decode cX12_readSet 1 = .ok (.getfield 515, 3) := dk_180 (by decide +kernel)
theorem dX12_readSet_4 : decode cX12_readSet 4 = .ok (.ifCond .le 5, 3) := dk_158 (by decide +kernel)
theorem dX12_readSet_7 : decode cX12_readSet 7 = .ok (.iconst 0, 1) := dk_3 (by decide +kernel)
theorem dX12_readSet_8 : decode cX12_readSet 8 = .ok (.ireturn, 1) := dk_172 (by decide +kernel)
theorem dX12_readSet_9 : decode cX12_readSet 9 = .ok (.aload_n 0, 1) := dk_42 (by decide +kernel)
theorem dX12_readSet_10 : decode cX12_readSet 10 = .ok (.getfield 494, 3) := dk_180 (by decide +kernel)
theorem dX12_readSet_13 : decode cX12_readSet 13 = .ok (.iconst 1, 1) := dk_4 (by decide +kernel)
theorem dX12_readSet_14 : decode cX12_readSet 14 = .ok (.if_icmp .eq 9, 3) := dk_159 (by decide +kernel)
theorem dX12_readSet_17 : decode cX12_readSet 17 = .ok (.aload_n 0, 1) := dk_42 (by decide +kernel)
theorem dX12_readSet_18 : decode cX12_readSet 18 = .ok (.invokevirtual 527, 3) := dk_182 (by decide +kernel)
theorem dX12_readSet_21 : decode cX12_readSet 21 = .ok (.iconst 0, 1) := dk_3 (by decide +kernel)
theorem dX12_readSet_22 : decode cX12_readSet 22 = .ok (.ireturn, 1) := dk_172 (by decide +kernel)
theorem dX12_readSet_23 : decode cX12_readSet 23 = .ok (.aload_n 0, 1) := dk_42 (by decide +kernel)
theorem dX12_readSet_24 : decode cX12_readSet 24 = .ok (.invokevirtual 555, 3) := dk_182 (by decide +kernel)
theorem dX12_readSet_27 : decode cX12_readSet 27 = .ok (.istore_n 1, 1) := dk_60 (by decide +kernel)
theorem dX12_readSet_28 : decode cX12_readSet 28 = .ok (.iload_n 1, 1) := dk_27 (by decide +kernel)
theorem dX12_readSet_29 : decode cX12_readSet 29 = .ok (.iconst (-1), 1) := dk_2 (by decide +kernel)
theorem dX12_readSet_30 : decode cX12_readSet 30 = .ok (.if_icmp .eq 13, 3) := dk_159 (by decide +kernel)
theorem dX12_readSet_33 : decode cX12_readSet 33 = .ok (.aload_n 0, 1) := dk_42 (by decide +kernel)
theorem dX12_readSet_34 : decode cX12_readSet 34 = .ok (.getfield 50, 3) := dk_180 (by decide +kernel)
theorem dX12_readSet_37 : decode cX12_readSet 37 = .ok (.iload_n 1, 1) := dk_27 (by decide +kernel)
theorem dX12_readSet_38 : decode cX12_readSet 38 = .ok (.iaload, 1) := dk_46 (by decide +kernel)
theorem dX12_readSet_39 : decode cX12_readSet 39 = .ok (.iconst 1, 1) := dk_4 (by decide +kernel)
theorem dX12_readSet_40 : decode cX12_readSet 40 = .ok (.if_icmp .eq 14, 3) := dk_159 (by decide +kernel)
theorem dX12_readSet_43 : decode cX12_readSet 43 = .ok (.aload_n 0, 1) := dk_42 (by decide +kernel)
theorem dX12_readSet_44 : decode cX12_readSet 44 = .ok (.iconst 3, 1) := dk_6 (by decide +kernel)
theorem dX12_readSet_45 : decode cX12_readSet 45 = .ok (.aload_n 0, 1) := dk_42 (by decide +kernel)
theorem dX12_readSet_46 : decode cX12_readSet 46 = .ok (.getfield 488, 3) := dk_180 (by decide +kernel)
theorem dX12_readSet_49 : decode cX12_readSet 49 = .ok (.invokevirtual 518, 3) := dk_182 (by decide +kernel)
theorem dX12_readSet_52 : decode cX12_readSet 52 = .ok (.iconst 0, 1) := dk_3 (by decide +kernel)
theorem dX12_readSet_53 : decode cX12_readSet 53 = .ok (.ireturn, 1) := dk_172 (by decide +kernel)
theorem dX12_readSet_54 : decode cX12_readSet 54 = .ok (.aload_n 0, 1) := dk_42 (by decide +kernel)
theorem dX12_readSet_55 : decode cX12_readSet 55 = .ok (.invokevirtual 524, 3) := dk_182 (by decide +kernel)
theorem dX12_readSet_58 : decode cX12_readSet 58 = .ok (.aload_n 0, 1) := dk_42 (by decide +kernel)
theorem dX12_readSet_59 : decode cX12_readSet 59 = .ok (.getfield 59, 3) := dk_180 (by decide +kernel)
theorem dX12_readSet_62 : decode cX12_readSet 62 = .ok (.iload_n 1, 1) := dk_27 (by decide +kernel)
theorem dX12_readSet_63 : decode cX12_readSet 63 = .ok (.iaload, 1) := dk_46 (by decide +kernel)
theorem dX12_readSet_64 : decode cX12_readSet 64 = .ok (.ireturn, 1) := dk_172 (by decide +kernel)
def wsRX12_readSet : List Cond := .code yX12_readSet cX12_readSet 2 (some .int) :: ([.fieldLink RX12 515 "OptimaWorksModel" "stop" "I", .fieldLink RX12 494 "OptimaWorksModel" "word" "I", .fieldLink RX12 488 "OptimaWorksModel" "from" "I", .fieldLink RX12 50 "OptimaWorksModel" "nameKind" "[I", .fieldLink RX12 59 "OptimaWorksModel" "nameOf" "[I"] ++ wsX120 ++ (wsV RX12 555 RX12 yX12_declared wsRX12_declared) ++ (wsV RX12 518 RX12 yX12_faultAt wsRX12_faultAt) ++ (wsV RX12 524 RX12 yX12_next wsRX12_next) ++ (wsV RX12 527 RX12 yX12_wrong wsRX12_wrong))
theorem iwsRX12_readSet_in12 : ∀ w ∈ wsX120, w ∈ wsRX12_readSet := fun _ h => List.mem_cons_of_mem _ (List.mem_append_left _ (List.mem_append_left _ (List.mem_append_left _ (List.mem_append_left _ (List.mem_append_right _ h)))))
theorem gwsRX12_readSet_0 : GoodIn wsRX12_readSet (wsV RX12 555 RX12 yX12_declared wsRX12_declared) := goodIn_sub (fun _ h => List.mem_cons_of_mem _ (List.mem_append_left _ (List.mem_append_left _ (List.mem_append_left _ (List.mem_append_right _ h))))) (gdV (by decide +kernel) gdwsRX12_declared)
theorem gwsRX12_readSet_1 : GoodIn wsRX12_readSet (wsV RX12 518 RX12 yX12_faultAt wsRX12_faultAt) := goodIn_sub (fun _ h => List.mem_cons_of_mem _ (List.mem_append_left _ (List.mem_append_left _ (List.mem_append_right _ h)))) (gdV (by decide +kernel) gdwsRX12_faultAt)
theorem gwsRX12_readSet_2 : GoodIn wsRX12_readSet (wsV RX12 524 RX12 yX12_next wsRX12_next) := goodIn_sub (fun _ h => List.mem_cons_of_mem _ (List.mem_append_left _ (List.mem_append_right _ h))) (gdV (by decide +kernel) gdwsRX12_next)
theorem gwsRX12_readSet_3 : GoodIn wsRX12_readSet (wsV RX12 527 RX12 yX12_wrong wsRX12_wrong) := goodIn_sub (fun _ h => List.mem_cons_of_mem _ (List.mem_append_right _ h)) (gdV (by decide +kernel) gdwsRX12_wrong)
theorem gdwsRX12_readSet : wsRX12_readSet.all goodWord = true := gdC rfl (gdA (gdA (gdA (gdA (gdA (by decide +kernel : ([.fieldLink RX12 515 "OptimaWorksModel" "stop" "I", .fieldLink RX12 494 "OptimaWorksModel" "word" "I", .fieldLink RX12 488 "OptimaWorksModel" "from" "I", .fieldLink RX12 50 "OptimaWorksModel" "nameKind" "[I", .fieldLink RX12 59 "OptimaWorksModel" "nameOf" "[I"] : List Cond).all goodWord = true) gdwsX120) (gdV (by decide +kernel) gdwsRX12_declared)) (gdV (by decide +kernel) gdwsRX12_faultAt)) (gdV (by decide +kernel) gdwsRX12_next)) (gdV (by decide +kernel) gdwsRX12_wrong))
theorem hm_r_X12_readSet_0 : (.fieldLink RX12 488 "OptimaWorksModel" "from" "I" : Cond) ∈ wsRX12_readSet := by decide +kernel
set_option maxHeartbeats 4000000 in
set_option maxRecDepth 100000 in
/-- readSet() -/
theorem r_X12_readSet (l : Launch) (dC : Nat → ClassId) (dI : Nat → Nat → Nat) (a : Nat → Nat) (k : Nat → ClassId) (h0 : Nat) (vi : Nat → Int32) (vj : Nat → Int64) (vF : Nat → Nat → Int32) (vG : Nat → Nat → Int64) (tp : Nat) (an : Nat) (fn : Nat) (nm : Nat) (se : Nat) (pa : Nat) (va : Nat) (hTp : vi 16 = nI tp) (htp : tp ≤ 4000) (ha0 : vi 17 = nI an) (hfr : vi 19 = nI fn) (hLx : LxO tp fn an (vi 18) (vi 20)) (hst0 : 0 ≤ (vi 21).toInt) (hnm : vi 25 = nI nm) (hnm40 : nm ≤ 40) (hno : NmO (vF 11) (vF 12) nm) (hNk : NkO (vF 10) (vF 13) nm se pa va) (sz : Nat) : Met l yX12_readSet wsRX12_readSet ({ frames := 8, cells := 0, slots := 0, locals := 173 }) (va_Pc [.ref h0] (fun U => U.heap.size = sz ∧ va_P (dC, dI) vwCl (WR a k h0 vi vj vF vG) U.heap ∧ va_K (dC, dI) vwCl (tX12 k) U ∧ va_D (fun _ => True) (WR a k h0 vi vj vF vG) ∧ StrA (va_A (WR a k h0 vi vj vF vG) sz) U U.heap)) (va_Qi (fun (r : Int32) (u : (Nat) × (Nat) × (Int32) × (Int32) × (Int32) × (Int32)) => (LxO tp (u.2.1) (u.1) (u.2.2.2.1) (u.2.2.1)) ∧ (fn ≤ (u.2.1)) ∧ (0 ≤ ((u.2.2.2.2.1)).toInt) ∧ ((0 < ((u.2.2.2.2.1)).toInt) ∨ ((u.2.2.2.2.1) = 0 ∧ fn < (u.2.1) ∧ ∃ o, o < se ∧ (r) = nI o))) (fun (u : (Nat) × (Nat) × (Int32) × (Int32) × (Int32) × (Int32)) t => va_P (dC, dI) vwCl (WR a k h0 (fT (fT (fT (fT (fT (fT vi 17 (nI (u.1))) 19 (nI (u.2.1))) 20 (u.2.2.1)) 18 (u.2.2.2.1)) 21 (u.2.2.2.2.1)) 22 (u.2.2.2.2.2)) vj vF vG) t.heap ∧ va_D (va_A (WR a k h0 vi vj vF vG) sz) (WR a k h0 (fT (fT (fT (fT (fT (fT vi 17 (nI (u.1))) 19 (nI (u.2.1))) 20 (u.2.2.1)) 18 (u.2.2.2.1)) 21 (u.2.2.2.2.1)) 22 (u.2.2.2.2.2)) vj vF vG)) (va_A (WR a k h0 vi vj vF vG) sz)) 0 0 (va_A (WR a k h0 vi vj vF vG) sz) := by
  refine Met.ofW (cc := cX12_readSet) (maxL := 2) (ret := (some .int)) (by decide) rfl ?_
  intro p e s m args below meth c s₁ B hml hv
  obtain ⟨rfl, hsz, hP, hK, hD0, hE⟩ := hv
  have hx := B.exec
  have hb := B.bytes
  have hr := B.returns
  have hts := atoms_spec (ws := wsRX12_readSet) B.pre
  have hown : s.vm.findClass RX12 = some m.cls := findClass_of_methodNamed B.named
  have hlocks := B.notSynchronized
  subst hsz
  have hD := hD0.self (sz := s.heap.size)
  generalize hAe : va_A (WR a k h0 vi vj vF vG) s.heap.size = A at hD hE ⊢
  have hA : ∀ q : Nat, s.heap.size ≤ q → A q := fun q h => by rw [← hAe]; exact Or.inr h
  have hS : va_S A s.heap s.heap [] := va_S.rf
  have hl := lv_entry ([.ref h0]) (n := 2) (Nat.le_of_ble_eq_true rfl)
  rw [lg_entry_eq]
  generalize (lg_sl ([.ref h0]) ++ List.replicate (2 - (lg_sl ([.ref h0])).length) Slot.unset).toArray = ls at hl ⊢
  have hl : lv_has ls 2 [(0, .ref h0)] := hl
  have hfa := hLx.1
  have han := hLx.2.1
  have han4 : an ≤ 4000 := by omega
  refine lv_aload_n hx hb dX12_readSet_0 rfl (lv_at hl 0 rfl) ?_
  refine va_get (D := (dC, dI)) (ci := 12) (v := .int (vi 21)) (C := RX12) (T := TX12) (N := 163) (fs := fM (vS a vi vj)) hx hb hts iwsRX12_readSet_in12 hown hK hP 0 rfl rfl 21 (by decide) (hts (.fieldLink RX12 515 "OptimaWorksModel" "stop" "I") (by decide +kernel)) (fun _ h9 => h9) rfl dX12_readSet_1 ?_
  refine lv_if_le (tgt := 9) hx hb dX12_readSet_4 (by decide) (fun c_4 => ?_) (fun c_4 => ?_)
  · have t_4 : ((vi 21)).toInt ≤ 0 := toI_le c_4 rfl (by decide)
    refine lv_aload_n hx hb dX12_readSet_9 rfl (lv_at hl 0 rfl) ?_
    refine va_get (D := (dC, dI)) (ci := 12) (v := .int (vi 18)) (C := RX12) (T := TX12) (N := 163) (fs := fM (vS a vi vj)) hx hb hts iwsRX12_readSet_in12 hown hK hP 0 rfl rfl 18 (by decide) (hts (.fieldLink RX12 494 "OptimaWorksModel" "word" "I") (by decide +kernel)) (fun _ h9 => h9) rfl dX12_readSet_10 ?_
    refine lv_iconst (v := 1) hx hb dX12_readSet_13 (by decide) ?_
    refine lv_icmp_eq (tgt := 23) hx hb dX12_readSet_14 (by decide) (fun c_14 => ?_) (fun c_14 => ?_)
    · have t_14 : ((vi 18)).toInt = 1 := toI_eq c_14 rfl (by decide)
      refine lv_aload_n hx hb dX12_readSet_23 rfl (lv_at hl 0 rfl) ?_
      have hFc := allFree hD hS hA
      refine va_calli (va_runV (As := []) (rest := []) ⟨hx, hb, hml, hown, hts⟩ (r_X12_declared l dC dI a k h0 vi vj vF vG an fn nm ha0 hfr (by first | with_reducible assumption | decide | omega | rfl | assumption) (by first | with_reducible assumption | decide | omega | rfl | assumption) hnm (by first | with_reducible assumption | decide | omega | rfl | assumption) (by first | with_reducible assumption | decide | omega | rfl | assumption) s.heap.size) (cwV 0 hts gwsRX12_readSet_0 rfl rfl rfl hd_yX12_declared_RX12 (by decide +kernel)) (fz_pre (va_recv hK hP (ci := 12) (q0 := 0) rfl rfl) hP hK hD) rfl rfl hl.1 rfl (lv_room (Nat.le_of_ble_eq_true rfl)) dX12_readSet_24 (by decide +kernel)) hS (fun q _ h => hFc q h) hFc (fun r24 kx24 t9_ H locs ht hvm hw9 hB9 hz1 hk1 hS => ?_)
      have hP : va_P (dC, dI) vwCl (WR a k h0 vi vj vF vG) H := fz_P ht hB9.1
      have hD := fz_sd hP (hB9.2.weaken (fun _ q _ h => hFc q.1 h)) rfl
      rcases hw9 with rfl | ⟨rfl, f24_0⟩
      · refine lv_istore_n hx hb dX12_readSet_27 rfl hl (by decide) rfl (fun ls (hl : lv_has ls _ ([(1, .int (-1)), (0, .ref h0)])) => ?_)
        refine lv_iload_n hx hb dX12_readSet_28 rfl (lv_at hl 0 rfl) ?_
        refine lv_iconst (v := (-1)) hx hb dX12_readSet_29 (by decide) ?_
        refine lv_icmp_eq (tgt := 43) hx hb dX12_readSet_30 (by decide) (fun _ => ?_) (fun c9 => absurd (by decide) c9)
        refine lv_aload_n hx hb dX12_readSet_43 rfl (lv_at hl 1 rfl) ?_
        refine lv_iconst (v := 3) hx hb dX12_readSet_44 (by decide) ?_
        refine lv_aload_n hx hb dX12_readSet_45 rfl (lv_at hl 1 rfl) ?_
        refine va_get (D := (dC, dI)) (ci := 12) (v := .int (vi 19)) (C := RX12) (T := TX12) (N := 163) (fs := fM (vS a vi vj)) hx hb hts iwsRX12_readSet_in12 hown hK hP 0 rfl rfl 19 (by decide) (hts _ hm_r_X12_readSet_0) (fun _ h9 => h9) rfl dX12_readSet_46 ?_
        refine lv_topi (fun y1 hy1 => ?_)
        obtain rfl : (nI fn) = y1 := (hy1.trans (hfr)).symm
        have hFc := allFree hD hS hA
        refine va_callv (va_runV (As := [.int 3, .int (nI fn)]) (rest := []) ⟨hx, hb, hml, hown, hts⟩ (r_X12_faultAt l dC dI a k h0 vi vj vF vG 3 (nI fn) (by first | with_reducible assumption | decide | omega | rfl | assumption) H.size) (cwV 2 hts gwsRX12_readSet_1 rfl rfl rfl hd_yX12_faultAt_RX12 (by decide +kernel)) (fz_pre (va_recv hK hP (ci := 12) (q0 := 0) rfl rfl) hP hK hD) rfl rfl hl.1 rfl (lv_room (Nat.le_of_ble_eq_true rfl)) dX12_readSet_49 (by decide +kernel)) hS (fun q _ h => hFc q h) hFc (fun u t9_ H locs ht hvm hw9 hB9 hz1 hk1 hS => ?_)
        revert u hw9 hB9
        refine fz_p2 ?_
        intro s249 p249 hw9 hB9
        try dsimp only at hw9 hB9
        have hP : va_P (dC, dI) vwCl (WR a k h0 (fT (fT vi 21 s249) 22 p249) vj vF vG) H := fz_P ht hB9.1
        have hD := fz_sd hP (hB9.2.weaken (fun _ q _ h => hFc q.1 h)) rfl
        revert hw9
        refine fz_a2 ?_
        intro f49_0 f49_1
        have f49_0 : (0 < (vi 21).toInt ∧ s249 = (vi 21) ∧ p249 = (vi 22)) ∨ (¬ 0 < (vi 21).toInt ∧ s249 = 3 ∧ p249 = (nI fn)) := f49_0
        refine lv_iconst (v := 0) hx hb dX12_readSet_52 (by decide) ?_
        refine W.widen (k := 0) (n := 0) (by decide +kernel) (by decide +kernel) ?_
        have e9 : fT (fT (fT (fT (fT (fT vi 17 (nI an)) 19 (nI fn)) 20 (vi 20)) 18 (vi 18)) 21 s249) 22 p249 = fT (fT vi 21 s249) 22 p249 := ch_E vi [nI an, nI fn, s249, p249] [(22, 4), (21, 3), (18, 0), (20, 0), (19, 2), (17, 1)] [(22, 4), (21, 3)] [17, 19] ⟨show nI an = vi 17 from (by first | with_reducible rfl | with_reducible assumption | (symm; with_reducible assumption) | rfl | assumption | (symm; assumption) | (subst_vars; rfl)), show nI fn = vi 19 from (by first | with_reducible rfl | with_reducible assumption | (symm; with_reducible assumption) | rfl | assumption | (symm; assumption) | (subst_vars; rfl)), trivial⟩ (by decide +kernel)
        have hP := wr_Pi e9 hP
        have hD := wr_Di e9 hD
        clear e9
        exact W.iret (v := 0) hx hb hr (fun t9_ ht hW => ⟨⟨0, (an, fn, (vi 20), (vi 18), s249, p249), rfl, by (try dsimp only); exact ⟨hLx, Nat.le_refl _, by (have h9 := f49_1); omega, Or.inl f49_1⟩, by rw [ht]; exact hP, hD⟩, hS.F ht⟩) hS.2.2 dX12_readSet_53
      · refine lv_istore_n hx hb dX12_readSet_27 rfl hl (by decide) rfl (fun ls (hl : lv_has ls _ ([(1, .int (nI kx24)), (0, .ref h0)])) => ?_)
        refine lv_iload_n hx hb dX12_readSet_28 rfl (lv_at hl 0 rfl) ?_
        refine lv_iconst (v := (-1)) hx hb dX12_readSet_29 (by decide) ?_
        refine lv_icmp_eq (tgt := 43) hx hb dX12_readSet_30 (by decide) (fun c_30 => ?_) (fun c_30 => ?_)
        · have t_30 : ((kx24 : Nat) : Int) = -1 := toI_eq c_30 (nI_toInt (by omega)) (by decide)
          refine lv_aload_n hx hb dX12_readSet_43 rfl (lv_at hl 1 rfl) ?_
          refine lv_iconst (v := 3) hx hb dX12_readSet_44 (by decide) ?_
          refine lv_aload_n hx hb dX12_readSet_45 rfl (lv_at hl 1 rfl) ?_
          refine va_get (D := (dC, dI)) (ci := 12) (v := .int (vi 19)) (C := RX12) (T := TX12) (N := 163) (fs := fM (vS a vi vj)) hx hb hts iwsRX12_readSet_in12 hown hK hP 0 rfl rfl 19 (by decide) (hts _ hm_r_X12_readSet_0) (fun _ h9 => h9) rfl dX12_readSet_46 ?_
          refine lv_topi (fun y2 hy2 => ?_)
          obtain rfl : (nI fn) = y2 := (hy2.trans (hfr)).symm
          have hFc := allFree hD hS hA
          refine va_callv (va_runV (As := [.int 3, .int (nI fn)]) (rest := []) ⟨hx, hb, hml, hown, hts⟩ (r_X12_faultAt l dC dI a k h0 vi vj vF vG 3 (nI fn) (by first | with_reducible assumption | decide | omega | rfl | assumption) H.size) (cwV 2 hts gwsRX12_readSet_1 rfl rfl rfl hd_yX12_faultAt_RX12 (by decide +kernel)) (fz_pre (va_recv hK hP (ci := 12) (q0 := 0) rfl rfl) hP hK hD) rfl rfl hl.1 rfl (lv_room (Nat.le_of_ble_eq_true rfl)) dX12_readSet_49 (by decide +kernel)) hS (fun q _ h => hFc q h) hFc (fun u t9_ H locs ht hvm hw9 hB9 hz1 hk1 hS => ?_)
          revert u hw9 hB9
          refine fz_p2 ?_
          intro s249_1 p249_1 hw9 hB9
          try dsimp only at hw9 hB9
          have hP : va_P (dC, dI) vwCl (WR a k h0 (fT (fT vi 21 s249_1) 22 p249_1) vj vF vG) H := fz_P ht hB9.1
          have hD := fz_sd hP (hB9.2.weaken (fun _ q _ h => hFc q.1 h)) rfl
          revert hw9
          refine fz_a2 ?_
          intro f49_1_0 f49_1_1
          have f49_1_0 : (0 < (vi 21).toInt ∧ s249_1 = (vi 21) ∧ p249_1 = (vi 22)) ∨ (¬ 0 < (vi 21).toInt ∧ s249_1 = 3 ∧ p249_1 = (nI fn)) := f49_1_0
          refine lv_iconst (v := 0) hx hb dX12_readSet_52 (by decide) ?_
          refine W.widen (k := 0) (n := 0) (by decide +kernel) (by decide +kernel) ?_
          have e9 : fT (fT (fT (fT (fT (fT vi 17 (nI an)) 19 (nI fn)) 20 (vi 20)) 18 (vi 18)) 21 s249_1) 22 p249_1 = fT (fT vi 21 s249_1) 22 p249_1 := ch_E vi [nI an, nI fn, s249_1, p249_1] [(22, 4), (21, 3), (18, 0), (20, 0), (19, 2), (17, 1)] [(22, 4), (21, 3)] [17, 19] ⟨show nI an = vi 17 from (by first | with_reducible rfl | with_reducible assumption | (symm; with_reducible assumption) | rfl | assumption | (symm; assumption) | (subst_vars; rfl)), show nI fn = vi 19 from (by first | with_reducible rfl | with_reducible assumption | (symm; with_reducible assumption) | rfl | assumption | (symm; assumption) | (subst_vars; rfl)), trivial⟩ (by decide +kernel)
          have hP := wr_Pi e9 hP
          have hD := wr_Di e9 hD
          clear e9
          exact W.iret (v := 0) hx hb hr (fun t9_ ht hW => ⟨⟨0, (an, fn, (vi 20), (vi 18), s249_1, p249_1), rfl, by (try dsimp only); exact ⟨hLx, Nat.le_refl _, by (have h9 := f49_1_1); omega, Or.inl f49_1_1⟩, by rw [ht]; exact hP, hD⟩, hS.F ht⟩) hS.2.2 dX12_readSet_53
        · have t_30 : ¬ ((kx24 : Nat) : Int) = -1 := toI_neq c_30 (nI_toInt (by omega)) (by decide)
          refine lv_aload_n hx hb dX12_readSet_33 rfl (lv_at hl 1 rfl) ?_
          refine va_get (D := (dC, dI)) (ci := 12) (v := .ref (a 10)) (C := RX12) (T := TX12) (N := 163) (fs := fM (vS a vi vj)) hx hb hts iwsRX12_readSet_in12 hown hK hP 0 rfl rfl 26 (by decide) (hts (.fieldLink RX12 50 "OptimaWorksModel" "nameKind" "[I") (by decide +kernel)) (fun _ h9 => h9) rfl dX12_readSet_34 ?_
          refine lv_iload_n hx hb dX12_readSet_37 rfl (lv_at hl 0 rfl) ?_
          refine va_iald (cA := k 10) (n := 44) (f := (vF 10)) hx hb hK hP 11 10 (WR_get 10 (by decide)) (TR_get 10 (by decide)) (vp_in_nI (show kx24 < 44 by omega) (by omega)) dX12_readSet_38 ?_
          refine lv_topi (fun y3 hy3 => ?_)
          obtain rfl : ((vF 10) kx24) = y3 := (hy3.trans (by rw [nI_clamp (by omega)])).symm
          refine lv_iconst (v := 1) hx hb dX12_readSet_39 (by decide) ?_
          refine lv_icmp_eq (tgt := 54) hx hb dX12_readSet_40 (by decide) (fun c_40 => ?_) (fun c_40 => ?_)
          · have t_40 : (((vF 10) kx24)).toInt = 1 := toI_eq c_40 rfl (by decide)
            obtain ⟨oS, eoS, hoS, hkA, _⟩ := hNk kx24 (by omega)
            have hfl := hLx.2.2.1.resolve_left (fun h => by rw [h] at c_14; exact absurd c_14 (by decide))
            refine lv_aload_n hx hb dX12_readSet_54 rfl (lv_at hl 1 rfl) ?_
            have hFc := allFree hD hS hA
            refine va_callv (va_runV (As := []) (rest := []) ⟨hx, hb, hml, hown, hts⟩ (r_X12_next l dC dI a k h0 vi vj vF vG tp an hTp (by first | with_reducible assumption | decide | omega | rfl | assumption) ha0 (by first | with_reducible assumption | decide | omega | rfl | assumption) H.size) (cwV 0 hts gwsRX12_readSet_2 rfl rfl rfl hd_yX12_next_RX12 (by decide +kernel)) (fz_preE (va_recv hK hP (ci := 12) (q0 := 0) rfl rfl) hP hK hD (fun a U g mk qE => qE.same rfl) (fun U hU9 hW => by rw [hU9]; exact (((hE : StrA A s s.heap).kept hS.2.1).narrow (fun q h => hFc q h)).warm hW)) rfl rfl hl.1 rfl (lv_room (Nat.le_of_ble_eq_true rfl)) dX12_readSet_55 (by decide +kernel)) hS (fun q _ h => hFc q h) hFc (fun u t9_ H locs ht hvm hw9 hB9 hz1 hk1 hS => ?_)
            revert u hw9 hB9
            refine fz_p4 ?_
            intro a255 f255 sg55 wd55 hw9 hB9
            try dsimp only at hw9 hB9
            have hP : va_P (dC, dI) vwCl (WR a k h0 (fT (fT (fT (fT vi 17 (nI a255)) 19 (nI f255)) 20 sg55) 18 wd55) vj vF vG) H := fz_P ht hB9.1
            have hD := fz_sd hP (hB9.2.weaken (fun _ q _ h => hFc q.1 h)) rfl
            revert hw9
            refine fz_a2 ?_
            intro f55_0 f55_1
            refine lv_aload_n hx hb dX12_readSet_58 rfl (lv_at hl 1 rfl) ?_
            refine va_get (D := (dC, dI)) (ci := 12) (v := .ref (a 13)) (C := RX12) (T := TX12) (N := 163) (fs := fM (vS a (fT (fT (fT (fT vi 17 (nI a255)) 19 (nI f255)) 20 sg55) 18 wd55) vj)) hx hb hts iwsRX12_readSet_in12 hown hK hP 0 rfl rfl 29 (by decide) (hts (.fieldLink RX12 59 "OptimaWorksModel" "nameOf" "[I") (by decide +kernel)) (fun _ h9 => h9) rfl dX12_readSet_59 ?_
            refine lv_iload_n hx hb dX12_readSet_62 rfl (lv_at hl 0 rfl) ?_
            refine va_iald (cA := k 13) (n := 44) (f := (vF 13)) hx hb hK hP 14 13 (WR_get 13 (by decide)) (TR_get 13 (by decide)) (vp_in_nI (show kx24 < 44 by omega) (by omega)) dX12_readSet_63 ?_
            refine lv_topi (fun y4 hy4 => ?_)
            obtain rfl : ((vF 13) kx24) = y4 := (hy4.trans (by rw [nI_clamp (by omega)])).symm
            refine lv_topi (fun y5 hy5 => ?_)
            obtain rfl : (nI oS) = y5 := (hy5.trans (eoS)).symm
            refine W.widen (k := 0) (n := 0) (by decide +kernel) (by decide +kernel) ?_
            have e9 : fT (fT (fT (fT (fT (fT vi 17 (nI a255)) 19 (nI f255)) 20 sg55) 18 wd55) 21 (vi 21)) 22 (vi 22) = fT (fT (fT (fT vi 17 (nI a255)) 19 (nI f255)) 20 sg55) 18 wd55 := (fT_id _ _ ((fT_ne _ _ (Nat.ne_of_beq_eq_false rfl)).trans ((fT_ne _ _ (Nat.ne_of_beq_eq_false rfl)).trans ((fT_ne _ _ (Nat.ne_of_beq_eq_false rfl)).trans ((fT_ne _ _ (Nat.ne_of_beq_eq_false rfl)).trans (fT_ne _ _ (Nat.ne_of_beq_eq_false rfl))))))).trans (fT_id _ _ ((fT_ne _ _ (Nat.ne_of_beq_eq_false rfl)).trans ((fT_ne _ _ (Nat.ne_of_beq_eq_false rfl)).trans ((fT_ne _ _ (Nat.ne_of_beq_eq_false rfl)).trans (fT_ne _ _ (Nat.ne_of_beq_eq_false rfl))))))
            have hP := wr_Pi e9 hP
            have hD := wr_Di e9 hD
            clear e9
            exact W.iret (v := (nI oS)) hx hb hr (fun t9_ ht hW => ⟨⟨(nI oS), (a255, f255, sg55, wd55, (vi 21), (vi 22)), rfl, by (try dsimp only); exact ⟨f55_0, by omega, hst0, Or.inr ⟨i32z (by omega), by omega, oS, hkA c_40, rfl⟩⟩, by rw [ht]; exact hP, hD⟩, hS.F ht⟩) hS.2.2 dX12_readSet_64
          · have t_40 : ¬ (((vF 10) kx24)).toInt = 1 := toI_neq c_40 rfl (by decide)
            refine lv_aload_n hx hb dX12_readSet_43 rfl (lv_at hl 1 rfl) ?_
            refine lv_iconst (v := 3) hx hb dX12_readSet_44 (by decide) ?_
            refine lv_aload_n hx hb dX12_readSet_45 rfl (lv_at hl 1 rfl) ?_
            refine va_get (D := (dC, dI)) (ci := 12) (v := .int (vi 19)) (C := RX12) (T := TX12) (N := 163) (fs := fM (vS a vi vj)) hx hb hts iwsRX12_readSet_in12 hown hK hP 0 rfl rfl 19 (by decide) (hts _ hm_r_X12_readSet_0) (fun _ h9 => h9) rfl dX12_readSet_46 ?_
            refine lv_topi (fun y6 hy6 => ?_)
            obtain rfl : (nI fn) = y6 := (hy6.trans (hfr)).symm
            have hFc := allFree hD hS hA
            refine va_callv (va_runV (As := [.int 3, .int (nI fn)]) (rest := []) ⟨hx, hb, hml, hown, hts⟩ (r_X12_faultAt l dC dI a k h0 vi vj vF vG 3 (nI fn) (by first | with_reducible assumption | decide | omega | rfl | assumption) H.size) (cwV 2 hts gwsRX12_readSet_1 rfl rfl rfl hd_yX12_faultAt_RX12 (by decide +kernel)) (fz_pre (va_recv hK hP (ci := 12) (q0 := 0) rfl rfl) hP hK hD) rfl rfl hl.1 rfl (lv_room (Nat.le_of_ble_eq_true rfl)) dX12_readSet_49 (by decide +kernel)) hS (fun q _ h => hFc q h) hFc (fun u t9_ H locs ht hvm hw9 hB9 hz1 hk1 hS => ?_)
            revert u hw9 hB9
            refine fz_p2 ?_
            intro s249_2 p249_2 hw9 hB9
            try dsimp only at hw9 hB9
            have hP : va_P (dC, dI) vwCl (WR a k h0 (fT (fT vi 21 s249_2) 22 p249_2) vj vF vG) H := fz_P ht hB9.1
            have hD := fz_sd hP (hB9.2.weaken (fun _ q _ h => hFc q.1 h)) rfl
            revert hw9
            refine fz_a2 ?_
            intro f49_2_0 f49_2_1
            have f49_2_0 : (0 < (vi 21).toInt ∧ s249_2 = (vi 21) ∧ p249_2 = (vi 22)) ∨ (¬ 0 < (vi 21).toInt ∧ s249_2 = 3 ∧ p249_2 = (nI fn)) := f49_2_0
            refine lv_iconst (v := 0) hx hb dX12_readSet_52 (by decide) ?_
            refine W.widen (k := 0) (n := 0) (by decide +kernel) (by decide +kernel) ?_
            have e9 : fT (fT (fT (fT (fT (fT vi 17 (nI an)) 19 (nI fn)) 20 (vi 20)) 18 (vi 18)) 21 s249_2) 22 p249_2 = fT (fT vi 21 s249_2) 22 p249_2 := ch_E vi [nI an, nI fn, s249_2, p249_2] [(22, 4), (21, 3), (18, 0), (20, 0), (19, 2), (17, 1)] [(22, 4), (21, 3)] [17, 19] ⟨show nI an = vi 17 from (by first | with_reducible rfl | with_reducible assumption | (symm; with_reducible assumption) | rfl | assumption | (symm; assumption) | (subst_vars; rfl)), show nI fn = vi 19 from (by first | with_reducible rfl | with_reducible assumption | (symm; with_reducible assumption) | rfl | assumption | (symm; assumption) | (subst_vars; rfl)), trivial⟩ (by decide +kernel)
            have hP := wr_Pi e9 hP
            have hD := wr_Di e9 hD
            clear e9
            exact W.iret (v := 0) hx hb hr (fun t9_ ht hW => ⟨⟨0, (an, fn, (vi 20), (vi 18), s249_2, p249_2), rfl, by (try dsimp only); exact ⟨hLx, Nat.le_refl _, by (have h9 := f49_2_1); omega, Or.inl f49_2_1⟩, by rw [ht]; exact hP, hD⟩, hS.F ht⟩) hS.2.2 dX12_readSet_53
    · have t_14 : ¬ ((vi 18)).toInt = 1 := toI_neq c_14 rfl (by decide)
      refine lv_aload_n hx hb dX12_readSet_17 rfl (lv_at hl 0 rfl) ?_
      have hFc := allFree hD hS hA
      refine va_callv (va_runV (As := []) (rest := []) ⟨hx, hb, hml, hown, hts⟩ (r_X12_wrong l dC dI a k h0 vi vj vF vG s.heap.size) (cwV 0 hts gwsRX12_readSet_3 rfl rfl rfl hd_yX12_wrong_RX12 (by decide +kernel)) (fz_pre (va_recv hK hP (ci := 12) (q0 := 0) rfl rfl) hP hK hD) rfl rfl hl.1 rfl (lv_room (Nat.le_of_ble_eq_true rfl)) dX12_readSet_18 (by decide +kernel)) hS (fun q _ h => hFc q h) hFc (fun u t9_ H locs ht hvm hw9 hB9 hz1 hk1 hS => ?_)
      revert u hw9 hB9
      refine fz_p2 ?_
      intro s218 p218 hw9 hB9
      try dsimp only at hw9 hB9
      have hP : va_P (dC, dI) vwCl (WR a k h0 (fT (fT vi 21 s218) 22 p218) vj vF vG) H := fz_P ht hB9.1
      have hD := fz_sd hP (hB9.2.weaken (fun _ q _ h => hFc q.1 h)) rfl
      revert hw9
      refine fz_a2 ?_
      intro f18_0 f18_1
      have f18_0 : (0 < (vi 21).toInt ∧ s218 = (vi 21) ∧ p218 = (vi 22)) ∨ (¬ 0 < (vi 21).toInt ∧ (s218 = 1 ∨ s218 = 2) ∧ p218 = (vi 19)) := f18_0
      refine lv_iconst (v := 0) hx hb dX12_readSet_21 (by decide) ?_
      refine W.widen (k := 0) (n := 0) (by decide +kernel) (by decide +kernel) ?_
      have e9 : fT (fT (fT (fT (fT (fT vi 17 (nI an)) 19 (nI fn)) 20 (vi 20)) 18 (vi 18)) 21 s218) 22 p218 = fT (fT vi 21 s218) 22 p218 := ch_E vi [nI an, nI fn, s218, p218] [(22, 4), (21, 3), (18, 0), (20, 0), (19, 2), (17, 1)] [(22, 4), (21, 3)] [17, 19] ⟨show nI an = vi 17 from (by first | with_reducible rfl | with_reducible assumption | (symm; with_reducible assumption) | rfl | assumption | (symm; assumption) | (subst_vars; rfl)), show nI fn = vi 19 from (by first | with_reducible rfl | with_reducible assumption | (symm; with_reducible assumption) | rfl | assumption | (symm; assumption) | (subst_vars; rfl)), trivial⟩ (by decide +kernel)
      have hP := wr_Pi e9 hP
      have hD := wr_Di e9 hD
      clear e9
      exact W.iret (v := 0) hx hb hr (fun t9_ ht hW => ⟨⟨0, (an, fn, (vi 20), (vi 18), s218, p218), rfl, by (try dsimp only); exact ⟨hLx, Nat.le_refl _, by omega, Or.inl f18_1⟩, by rw [ht]; exact hP, hD⟩, hS.F ht⟩) hS.2.2 dX12_readSet_22
  · have t_4 : ¬ ((vi 21)).toInt ≤ 0 := toI_nle c_4 rfl (by decide)
    refine lv_iconst (v := 0) hx hb dX12_readSet_7 (by decide) ?_
    refine W.widen (k := 0) (n := 0) (by decide +kernel) (by decide +kernel) ?_
    have e9 : fT (fT (fT (fT (fT (fT vi 17 (nI an)) 19 (nI fn)) 20 (vi 20)) 18 (vi 18)) 21 (vi 21)) 22 (vi 22) = vi := ch_E vi [nI an, nI fn] [(22, 0), (21, 0), (18, 0), (20, 0), (19, 2), (17, 1)] [] [17, 19] ⟨show nI an = vi 17 from (by first | with_reducible rfl | with_reducible assumption | (symm; with_reducible assumption) | rfl | assumption | (symm; assumption) | (subst_vars; rfl)), show nI fn = vi 19 from (by first | with_reducible rfl | with_reducible assumption | (symm; with_reducible assumption) | rfl | assumption | (symm; assumption) | (subst_vars; rfl)), trivial⟩ (by decide +kernel)
    have hP := wr_Pi e9 hP
    have hD := wr_Di e9 hD
    clear e9
    exact W.iret (v := 0) hx hb hr (fun t9_ ht hW => ⟨⟨0, (an, fn, (vi 20), (vi 18), (vi 21), (vi 22)), rfl, by (try dsimp only); exact ⟨hLx, Nat.le_refl _, hst0, Or.inl (by omega)⟩, by rw [ht]; exact hP, hD⟩, hS.F ht⟩) hS.2.2 dX12_readSet_8
theorem dX12_readWhole_0 : decode cX12_readWhole 0 = .ok (.aload_n 0, 1) := dk_42 (by decide +kernel)
theorem dX12_readWhole_1 : decode cX12_readWhole 1 = .ok (.getfield 515, 3) := dk_180 (by decide +kernel)
theorem dX12_readWhole_4 : decode cX12_readWhole 4 = .ok (.ifCond .le 5, 3) := dk_158 (by decide +kernel)
theorem dX12_readWhole_7 : decode cX12_readWhole 7 = .ok (.iconst 0, 1) := dk_3 (by decide +kernel)
theorem dX12_readWhole_8 : decode cX12_readWhole 8 = .ok (.ireturn, 1) := dk_172 (by decide +kernel)
theorem dX12_readWhole_9 : decode cX12_readWhole 9 = .ok (.aload_n 0, 1) := dk_42 (by decide +kernel)
theorem dX12_readWhole_10 : decode cX12_readWhole 10 = .ok (.bipush 45, 2) := dk_16 (by decide +kernel)
theorem dX12_readWhole_12 : decode cX12_readWhole 12 = .ok (.invokevirtual 521, 3) := dk_182 (by decide +kernel)
theorem dX12_readWhole_15 : decode cX12_readWhole 15 = .ok (.istore_n 1, 1) := dk_60 (by decide +kernel)
theorem dX12_readWhole_16 : decode cX12_readWhole 16 = .ok (.iload_n 1, 1) := dk_27 (by decide +kernel)
theorem dX12_readWhole_17 : decode cX12_readWhole 17 = .ok (.ifCond .eq 7, 3) := dk_153 (by decide +kernel)
theorem dX12_readWhole_20 : decode cX12_readWhole 20 = .ok (.aload_n 0, 1) := dk_42 (by decide +kernel)
theorem dX12_readWhole_21 : decode cX12_readWhole 21 = .ok (.invokevirtual 524, 3) := dk_182 (by decide +kernel)
theorem dX12_readWhole_24 : decode cX12_readWhole 24 = .ok (.aload_n 0, 1) := dk_42 (by decide +kernel)
theorem dX12_readWhole_25 : decode cX12_readWhole 25 = .ok (.getfield 494, 3) := dk_180 (by decide +kernel)
theorem dX12_readWhole_28 : decode cX12_readWhole 28 = .ok (.iconst 3, 1) := dk_6 (by decide +kernel)
theorem dX12_readWhole_29 : decode cX12_readWhole 29 = .ok (.if_icmp .eq 9, 3) := dk_159 (by decide +kernel)
theorem dX12_readWhole_32 : decode cX12_readWhole 32 = .ok (.aload_n 0, 1) := dk_42 (by decide +kernel)
theorem dX12_readWhole_33 : decode cX12_readWhole 33 = .ok (.invokevirtual 527, 3) := dk_182 (by decide +kernel)
theorem dX12_readWhole_36 : decode cX12_readWhole 36 = .ok (.iconst 0, 1) := dk_3 (by decide +kernel)
theorem dX12_readWhole_37 : decode cX12_readWhole 37 = .ok (.ireturn, 1) := dk_172 (by decide +kernel)
theorem dX12_readWhole_38 : decode cX12_readWhole 38 = .ok (.iload_n 1, 1) := dk_27 (by decide +kernel)
theorem dX12_readWhole_39 : decode cX12_readWhole 39 = .ok (.ifCond .eq 11, 3) := dk_153 (by decide +kernel)
theorem dX12_readWhole_42 : decode cX12_readWhole 42 = .ok (.aload_n 0, 1) := dk_42 (by decide +kernel)
theorem dX12_readWhole_43 : decode cX12_readWhole 43 = .ok (.getfield 491, 3) := dk_180 (by decide +kernel)
theorem dX12_readWhole_46 : decode cX12_readWhole 46 = .ok (.ineg, 1) := dk_116 (by decide +kernel)
theorem dX12_readWhole_47 : decode cX12_readWhole 47 = .ok (.goto 7, 3) := dk_167 (by decide +kernel)
theorem dX12_readWhole_50 : decode cX12_readWhole 50 = .ok (.aload_n 0, 1) := dk_42 (by decide +kernel)
theorem dX12_readWhole_51 : decode cX12_readWhole 51 = .ok (.getfield 491, 3) := dk_180 (by decide +kernel)
theorem dX12_readWhole_54 : decode cX12_readWhole 54 = .ok (.istore_n 2, 1) := dk_61 (by decide +kernel)
theorem dX12_readWhole_55 : decode cX12_readWhole 55 = .ok (.aload_n 0, 1) := dk_42 (by decide +kernel)
theorem dX12_readWhole_56 : decode cX12_readWhole 56 = .ok (.invokevirtual 524, 3) := dk_182 (by decide +kernel)
theorem dX12_readWhole_59 : decode cX12_readWhole 59 = .ok (.iload_n 2, 1) := dk_28 (by decide +kernel)
theorem dX12_readWhole_60 : decode cX12_readWhole 60 = .ok (.ireturn, 1) := dk_172 (by decide +kernel)
def wsRX12_readWhole : List Cond := .code yX12_readWhole cX12_readWhole 3 (some .int) :: ([.fieldLink RX12 515 "OptimaWorksModel" "stop" "I", .fieldLink RX12 494 "OptimaWorksModel" "word" "I", .fieldLink RX12 491 "OptimaWorksModel" "sign0" "I"] ++ wsX120 ++ (wsV RX12 521 RX12 yX12_isSign wsRX12_isSign) ++ (wsV RX12 524 RX12 yX12_next wsRX12_next) ++ (wsV RX12 527 RX12 yX12_wrong wsRX12_wrong))
theorem iwsRX12_readWhole_in12 : ∀ w ∈ wsX120, w ∈ wsRX12_readWhole := fun _ h => List.mem_cons_of_mem _ (List.mem_append_left _ (List.mem_append_left _ (List.mem_append_left _ (List.mem_append_right _ h))))
theorem gwsRX12_readWhole_0 : GoodIn wsRX12_readWhole (wsV RX12 521 RX12 yX12_isSign wsRX12_isSign) := goodIn_sub (fun _ h => List.mem_cons_of_mem _ (List.mem_append_left _ (List.mem_append_left _ (List.mem_append_right _ h)))) (gdV (by decide +kernel) gdwsRX12_isSign)
theorem gwsRX12_readWhole_1 : GoodIn wsRX12_readWhole (wsV RX12 524 RX12 yX12_next wsRX12_next) := goodIn_sub (fun _ h => List.mem_cons_of_mem _ (List.mem_append_left _ (List.mem_append_right _ h))) (gdV (by decide +kernel) gdwsRX12_next)
theorem gwsRX12_readWhole_2 : GoodIn wsRX12_readWhole (wsV RX12 527 RX12 yX12_wrong wsRX12_wrong) := goodIn_sub (fun _ h => List.mem_cons_of_mem _ (List.mem_append_right _ h)) (gdV (by decide +kernel) gdwsRX12_wrong)
theorem gdwsRX12_readWhole : wsRX12_readWhole.all goodWord = true := gdC rfl (gdA (gdA (gdA (gdA (by decide +kernel : ([.fieldLink RX12 515 "OptimaWorksModel" "stop" "I", .fieldLink RX12 494 "OptimaWorksModel" "word" "I", .fieldLink RX12 491 "OptimaWorksModel" "sign0" "I"] : List Cond).all goodWord = true) gdwsX120) (gdV (by decide +kernel) gdwsRX12_isSign)) (gdV (by decide +kernel) gdwsRX12_next)) (gdV (by decide +kernel) gdwsRX12_wrong))
theorem hm_r_X12_readWhole_0 : (.fieldLink RX12 494 "OptimaWorksModel" "word" "I" : Cond) ∈ wsRX12_readWhole := by decide +kernel
theorem hm_r_X12_readWhole_1 : (.fieldLink RX12 491 "OptimaWorksModel" "sign0" "I" : Cond) ∈ wsRX12_readWhole := by decide +kernel
set_option maxHeartbeats 4000000 in
set_option maxRecDepth 100000 in
/-- readWhole() -/
theorem r_X12_readWhole (l : Launch) (dC : Nat → ClassId) (dI : Nat → Nat → Nat) (a : Nat → Nat) (k : Nat → ClassId) (h0 : Nat) (vi : Nat → Int32) (vj : Nat → Int64) (vF : Nat → Nat → Int32) (vG : Nat → Nat → Int64) (tp : Nat) (an : Nat) (fn : Nat) (hTp : vi 16 = nI tp) (htp : tp ≤ 4000) (ha0 : vi 17 = nI an) (hfr : vi 19 = nI fn) (hLx : LxO tp fn an (vi 18) (vi 20)) (hst0 : 0 ≤ (vi 21).toInt) (sz : Nat) : Met l yX12_readWhole wsRX12_readWhole ({ frames := 8, cells := 0, slots := 0, locals := 173 }) (va_Pc [.ref h0] (fun U => U.heap.size = sz ∧ va_P (dC, dI) vwCl (WR a k h0 vi vj vF vG) U.heap ∧ va_K (dC, dI) vwCl (tX12 k) U ∧ va_D (fun _ => True) (WR a k h0 vi vj vF vG) ∧ StrA (va_A (WR a k h0 vi vj vF vG) sz) U U.heap)) (va_Qi (fun (r : Int32) (u : (Nat) × (Nat) × (Int32) × (Int32) × (Int32) × (Int32)) => (LxO tp (u.2.1) (u.1) (u.2.2.2.1) (u.2.2.1)) ∧ (fn ≤ (u.2.1)) ∧ (0 ≤ ((u.2.2.2.2.1)).toInt) ∧ (-999999 ≤ (r).toInt ∧ (r).toInt ≤ 999999) ∧ (0 < ((u.2.2.2.2.1)).toInt ∨ vi 21 = 0)) (fun (u : (Nat) × (Nat) × (Int32) × (Int32) × (Int32) × (Int32)) t => va_P (dC, dI) vwCl (WR a k h0 (fT (fT (fT (fT (fT (fT vi 17 (nI (u.1))) 19 (nI (u.2.1))) 18 (u.2.2.2.1)) 20 (u.2.2.1)) 21 (u.2.2.2.2.1)) 22 (u.2.2.2.2.2)) vj vF vG) t.heap ∧ va_D (va_A (WR a k h0 vi vj vF vG) sz) (WR a k h0 (fT (fT (fT (fT (fT (fT vi 17 (nI (u.1))) 19 (nI (u.2.1))) 18 (u.2.2.2.1)) 20 (u.2.2.1)) 21 (u.2.2.2.2.1)) 22 (u.2.2.2.2.2)) vj vF vG)) (va_A (WR a k h0 vi vj vF vG) sz)) 0 0 (va_A (WR a k h0 vi vj vF vG) sz) := by
  refine Met.ofW (cc := cX12_readWhole) (maxL := 3) (ret := (some .int)) (by decide) rfl ?_
  intro p e s m args below meth c s₁ B hml hv
  obtain ⟨rfl, hsz, hP, hK, hD0, hE⟩ := hv
  have hx := B.exec
  have hb := B.bytes
  have hr := B.returns
  have hts := atoms_spec (ws := wsRX12_readWhole) B.pre
  have hown : s.vm.findClass RX12 = some m.cls := findClass_of_methodNamed B.named
  have hlocks := B.notSynchronized
  subst hsz
  have hD := hD0.self (sz := s.heap.size)
  generalize hAe : va_A (WR a k h0 vi vj vF vG) s.heap.size = A at hD hE ⊢
  have hA : ∀ q : Nat, s.heap.size ≤ q → A q := fun q h => by rw [← hAe]; exact Or.inr h
  have hS : va_S A s.heap s.heap [] := va_S.rf
  have hl := lv_entry ([.ref h0]) (n := 3) (Nat.le_of_ble_eq_true rfl)
  rw [lg_entry_eq]
  generalize (lg_sl ([.ref h0]) ++ List.replicate (3 - (lg_sl ([.ref h0])).length) Slot.unset).toArray = ls at hl ⊢
  have hl : lv_has ls 3 [(0, .ref h0)] := hl
  have hfa := hLx.1
  have han := hLx.2.1
  have han4 : an ≤ 4000 := by omega
  refine lv_aload_n hx hb dX12_readWhole_0 rfl (lv_at hl 0 rfl) ?_
  refine va_get (D := (dC, dI)) (ci := 12) (v := .int (vi 21)) (C := RX12) (T := TX12) (N := 163) (fs := fM (vS a vi vj)) hx hb hts iwsRX12_readWhole_in12 hown hK hP 0 rfl rfl 21 (by decide) (hts (.fieldLink RX12 515 "OptimaWorksModel" "stop" "I") (by decide +kernel)) (fun _ h9 => h9) rfl dX12_readWhole_1 ?_
  refine lv_if_le (tgt := 9) hx hb dX12_readWhole_4 (by decide) (fun c_4 => ?_) (fun c_4 => ?_)
  · have t_4 : ((vi 21)).toInt ≤ 0 := toI_le c_4 rfl (by decide)
    refine lv_aload_n hx hb dX12_readWhole_9 rfl (lv_at hl 0 rfl) ?_
    refine lv_bipush (v := 45) hx hb dX12_readWhole_10 (by decide) ?_
    have hFc := allFree hD hS hA
    refine va_calli (va_runV (As := [.int 45]) (rest := []) ⟨hx, hb, hml, hown, hts⟩ (r_X12_isSign l dC dI a k h0 vi vj vF vG 45 s.heap.size) (cwV 1 hts gwsRX12_readWhole_0 rfl rfl rfl hd_yX12_isSign_RX12 (by decide +kernel)) (fz_pre (va_recv hK hP (ci := 12) (q0 := 0) rfl rfl) hP hK hD) rfl rfl hl.1 rfl (lv_room (Nat.le_of_ble_eq_true rfl)) dX12_readWhole_12 (by decide +kernel)) hS (fun q _ h => hFc q h) hFc (fun r12 u t9_ H locs ht hvm hw9 hB9 hz1 hk1 hS => ?_)
    have hP : va_P (dC, dI) vwCl (WR a k h0 vi vj vF vG) H := fz_P ht hB9.1
    have hD := fz_sd hP (hB9.2.weaken (fun _ q _ h => hFc q.1 h)) rfl
    rcases hw9 with ⟨rfl, f12_0, f12_1⟩ | ⟨rfl, f12_0⟩
    · have f12_0 : (vi 18).toInt = 4 := f12_0
      have f12_1 : (vi 20) = 45 := f12_1
      refine lv_istore_n hx hb dX12_readWhole_15 rfl hl (by decide) rfl (fun ls (hl : lv_has ls _ ([(1, .int 1), (0, .ref h0)])) => ?_)
      refine lv_iload_n hx hb dX12_readWhole_16 rfl (lv_at hl 0 rfl) ?_
      refine W.cut (pc := 24) (fun H locs ls stk => ∃ (a3 : Nat) (f3 : Nat) (w3 : Int32) (g3 : Int32), (LxO tp f3 a3 w3 g3) ∧ (fn ≤ f3) ∧  stk = [] ∧ va_P (dC, dI) vwCl (WR a k h0 (fT (fT (fT (fT vi 17 (nI a3)) 19 (nI f3)) 18 w3) 20 g3) vj vF vG) H ∧ va_D A (WR a k h0 (fT (fT (fT (fT vi 17 (nI a3)) 19 (nI f3)) 18 w3) 20 g3) vj vF vG) ∧ va_S A s.heap H locs ∧ lv_has ls 3 [(1, .int 1), (0, .ref h0)]) (fun join1 => ?_) ?_
      · refine lv_if_eq (tgt := 24) hx hb dX12_readWhole_17 (by decide) (fun c9 => absurd c9 (by decide)) (fun _ => ?_)
        refine lv_aload_n hx hb dX12_readWhole_20 rfl (lv_at hl 1 rfl) ?_
        have hFc := allFree hD hS hA
        refine va_callv (va_runV (As := []) (rest := []) ⟨hx, hb, hml, hown, hts⟩ (r_X12_next l dC dI a k h0 vi vj vF vG tp an hTp (by first | with_reducible assumption | decide | omega | rfl | assumption) ha0 (by first | with_reducible assumption | decide | omega | rfl | assumption) H.size) (cwV 0 hts gwsRX12_readWhole_1 rfl rfl rfl hd_yX12_next_RX12 (by decide +kernel)) (fz_preE (va_recv hK hP (ci := 12) (q0 := 0) rfl rfl) hP hK hD (fun a U g mk qE => qE.same rfl) (fun U hU9 hW => by rw [hU9]; exact (((hE : StrA A s s.heap).kept hS.2.1).narrow (fun q h => hFc q h)).warm hW)) rfl rfl hl.1 rfl (lv_room (Nat.le_of_ble_eq_true rfl)) dX12_readWhole_21 (by decide +kernel)) hS (fun q _ h => hFc q h) hFc (fun u t9_ H locs ht hvm hw9 hB9 hz1 hk1 hS => ?_)
        revert u hw9 hB9
        refine fz_p4 ?_
        intro a221 f221 sg21 wd21 hw9 hB9
        try dsimp only at hw9 hB9
        have hP : va_P (dC, dI) vwCl (WR a k h0 (fT (fT (fT (fT vi 17 (nI a221)) 19 (nI f221)) 20 sg21) 18 wd21) vj vF vG) H := fz_P ht hB9.1
        have hD := fz_sd hP (hB9.2.weaken (fun _ q _ h => hFc q.1 h)) rfl
        revert hw9
        refine fz_a2 ?_
        intro f21_0 f21_1
        have e9 : fT (fT (fT (fT vi 17 (nI a221)) 19 (nI f221)) 18 wd21) 20 sg21 = fT (fT (fT (fT vi 17 (nI a221)) 19 (nI f221)) 20 sg21) 18 wd21 := ch_E vi [nI a221, nI f221, wd21, sg21] [(20, 4), (18, 3), (19, 2), (17, 1)] [(18, 3), (20, 4), (19, 2), (17, 1)] [] trivial (by decide +kernel)
        have hP := wr_Pi e9 hP
        have hD := wr_Di e9 hD
        clear e9
        have hl : lv_has _ _ ([(1, .int 1), (0, .ref h0)]) := lv_sub hl [0, 1] rfl
        exact join1 _ _ _ _ ⟨a221, f221, wd21, sg21, f21_0, by (have h9 := f21_1); omega, rfl, hP, hD, hS, hl⟩
      · rintro H locs ls stk ⟨a3, f3, w3, g3, hLx3, hf3, rfl, hP, hD, hS, hl⟩
        have ha3 := hLx3.1
        have hb3 := hLx3.2.1
        refine lv_aload_n hx hb dX12_readWhole_24 rfl (lv_at hl 1 rfl) ?_
        refine va_get (D := (dC, dI)) (ci := 12) (v := .int w3) (C := RX12) (T := TX12) (N := 163) (fs := fM (vS a (fT (fT (fT (fT vi 17 (nI a3)) 19 (nI f3)) 18 w3) 20 g3) vj)) hx hb hts iwsRX12_readWhole_in12 hown hK hP 0 rfl rfl 18 (by decide) (hts _ hm_r_X12_readWhole_0) (fun _ h9 => h9) rfl dX12_readWhole_25 ?_
        refine lv_iconst (v := 3) hx hb dX12_readWhole_28 (by decide) ?_
        refine lv_icmp_eq (tgt := 38) hx hb dX12_readWhole_29 (by decide) (fun c_29 => ?_) (fun c_29 => ?_)
        · have t_29 : (w3).toInt = 3 := toI_eq c_29 rfl (by decide)
          have hnu := hLx3.2.2.2 c_29
          refine lv_iload_n hx hb dX12_readWhole_38 rfl (lv_at hl 0 rfl) ?_
          refine W.cut (pc := 54) (fun H locs ls stk => ∃ (v9 : Int32), (-999999 ≤ (v9).toInt ∧ (v9).toInt ≤ 999999) ∧  stk = [.int v9] ∧ va_P (dC, dI) vwCl (WR a k h0 (fT (fT (fT (fT vi 17 (nI a3)) 19 (nI f3)) 18 w3) 20 g3) vj vF vG) H ∧ va_D A (WR a k h0 (fT (fT (fT (fT vi 17 (nI a3)) 19 (nI f3)) 18 w3) 20 g3) vj vF vG) ∧ va_S A s.heap H locs ∧ lv_has ls 3 [(1, .int 1), (0, .ref h0)]) (fun join2 => ?_) ?_
          · refine lv_if_eq (tgt := 50) hx hb dX12_readWhole_39 (by decide) (fun c9 => absurd c9 (by decide)) (fun _ => ?_)
            refine lv_aload_n hx hb dX12_readWhole_42 rfl (lv_at hl 1 rfl) ?_
            refine va_get (D := (dC, dI)) (ci := 12) (v := .int g3) (C := RX12) (T := TX12) (N := 163) (fs := fM (vS a (fT (fT (fT (fT vi 17 (nI a3)) 19 (nI f3)) 18 w3) 20 g3) vj)) hx hb hts iwsRX12_readWhole_in12 hown hK hP 0 rfl rfl 20 (by decide) (hts _ hm_r_X12_readWhole_1) (fun _ h9 => h9) rfl dX12_readWhole_43 ?_
            refine lv_ineg hx hb dX12_readWhole_46 ?_
            refine lv_goto (tgt := 54) hx hb dX12_readWhole_47 (by decide) ?_
            have hl : lv_has _ _ ([(1, .int 1), (0, .ref h0)]) := lv_sub hl [0, 1] rfl
            exact join2 _ _ _ _ ⟨(-g3), by (have h9 := neg32 (x := g3) (b := 999999) (by omega) (by decide)); omega, rfl, hP, hD, hS, hl⟩
          · rintro H locs ls stk ⟨v9, hv9, rfl, hP, hD, hS, hl⟩
            refine lv_istore_n hx hb dX12_readWhole_54 rfl hl (by decide) rfl (fun ls (hl : lv_has ls _ ([(2, .int v9), (1, .int 1), (0, .ref h0)])) => ?_)
            refine lv_aload_n hx hb dX12_readWhole_55 rfl (lv_at hl 2 rfl) ?_
            have hFc := allFree hD hS hA
            refine va_callv (va_runV (As := []) (rest := []) ⟨hx, hb, hml, hown, hts⟩ (r_X12_next l dC dI a k h0 (fT (fT (fT (fT vi 17 (nI a3)) 19 (nI f3)) 18 w3) 20 g3) vj vF vG tp a3 hTp (by first | with_reducible assumption | decide | omega | rfl | assumption) rfl (by first | with_reducible assumption | decide | omega | rfl | assumption) H.size) (cwV 0 hts gwsRX12_readWhole_1 rfl rfl rfl hd_yX12_next_RX12 (by decide +kernel)) (fz_preE (va_recv hK hP (ci := 12) (q0 := 0) rfl rfl) hP hK hD (fun a U g mk qE => qE.same rfl) (fun U hU9 hW => by rw [hU9]; exact (((hE : StrA A s s.heap).kept hS.2.1).narrow (fun q h => hFc q h)).warm hW)) rfl rfl hl.1 rfl (lv_room (Nat.le_of_ble_eq_true rfl)) dX12_readWhole_56 (by decide +kernel)) hS (fun q _ h => hFc q h) hFc (fun u t9_ H locs ht hvm hw9 hB9 hz1 hk1 hS => ?_)
            revert u hw9 hB9
            refine fz_p4 ?_
            intro a256 f256 sg56 wd56 hw9 hB9
            try dsimp only at hw9 hB9
            have e9i : fT (fT (fT (fT vi 17 (nI a256)) 19 (nI f256)) 18 wd56) 20 sg56 = fT (fT (fT (fT (fT (fT (fT (fT vi 17 (nI a3)) 19 (nI f3)) 18 w3) 20 g3) 17 (nI a256)) 19 (nI f256)) 20 sg56) 18 wd56 := ch_E vi [nI a256, nI f256, wd56, sg56, nI a3, nI f3, w3, g3] [(20, 4), (18, 3), (19, 2), (17, 1)] [(18, 3), (20, 4), (19, 2), (17, 1), (20, 8), (18, 7), (19, 6), (17, 5)] [] trivial (by decide +kernel)
            have hP := wr_Pi e9i (fz_P ht hB9.1)
            have hD := wr_Di e9i (hB9.2.weaken (fun _ q _ h => hFc q.1 h))
            clear e9i
            revert hw9
            refine fz_a2 ?_
            intro f56_0 f56_1
            refine lv_iload_n hx hb dX12_readWhole_59 rfl (lv_at hl 0 rfl) ?_
            refine W.widen (k := 0) (n := 0) (by decide +kernel) (by decide +kernel) ?_
            have e9 : fT (fT (fT (fT (fT (fT vi 17 (nI a256)) 19 (nI f256)) 18 wd56) 20 sg56) 21 (vi 21)) 22 (vi 22) = fT (fT (fT (fT vi 17 (nI a256)) 19 (nI f256)) 18 wd56) 20 sg56 := (fT_id _ _ ((fT_ne _ _ (Nat.ne_of_beq_eq_false rfl)).trans ((fT_ne _ _ (Nat.ne_of_beq_eq_false rfl)).trans ((fT_ne _ _ (Nat.ne_of_beq_eq_false rfl)).trans ((fT_ne _ _ (Nat.ne_of_beq_eq_false rfl)).trans (fT_ne _ _ (Nat.ne_of_beq_eq_false rfl))))))).trans (fT_id _ _ ((fT_ne _ _ (Nat.ne_of_beq_eq_false rfl)).trans ((fT_ne _ _ (Nat.ne_of_beq_eq_false rfl)).trans ((fT_ne _ _ (Nat.ne_of_beq_eq_false rfl)).trans (fT_ne _ _ (Nat.ne_of_beq_eq_false rfl))))))
            have hP := wr_Pi e9 hP
            have hD := wr_Di e9 hD
            clear e9
            exact W.iret (v := v9) hx hb hr (fun t9_ ht hW => ⟨⟨v9, (a256, f256, sg56, wd56, (vi 21), (vi 22)), rfl, by (try dsimp only); exact ⟨f56_0, by omega, hst0, hv9, Or.inr (i32z (by omega))⟩, by rw [ht]; exact hP, hD⟩, hS.F ht⟩) hS.2.2 dX12_readWhole_60
        · have t_29 : ¬ (w3).toInt = 3 := toI_neq c_29 rfl (by decide)
          refine lv_aload_n hx hb dX12_readWhole_32 rfl (lv_at hl 1 rfl) ?_
          have hFc := allFree hD hS hA
          refine va_callv (va_runV (As := []) (rest := []) ⟨hx, hb, hml, hown, hts⟩ (r_X12_wrong l dC dI a k h0 (fT (fT (fT (fT vi 17 (nI a3)) 19 (nI f3)) 18 w3) 20 g3) vj vF vG H.size) (cwV 0 hts gwsRX12_readWhole_2 rfl rfl rfl hd_yX12_wrong_RX12 (by decide +kernel)) (fz_pre (va_recv hK hP (ci := 12) (q0 := 0) rfl rfl) hP hK hD) rfl rfl hl.1 rfl (lv_room (Nat.le_of_ble_eq_true rfl)) dX12_readWhole_33 (by decide +kernel)) hS (fun q _ h => hFc q h) hFc (fun u t9_ H locs ht hvm hw9 hB9 hz1 hk1 hS => ?_)
          revert u hw9 hB9
          refine fz_p2 ?_
          intro s233 p233 hw9 hB9
          try dsimp only at hw9 hB9
          have hP : va_P (dC, dI) vwCl (WR a k h0 (fT (fT (fT (fT (fT (fT vi 17 (nI a3)) 19 (nI f3)) 18 w3) 20 g3) 21 s233) 22 p233) vj vF vG) H := fz_P ht hB9.1
          have hD := fz_sd hP (hB9.2.weaken (fun _ q _ h => hFc q.1 h)) rfl
          revert hw9
          refine fz_a2 ?_
          intro f33_0 f33_1
          have f33_0 : (0 < (vi 21).toInt ∧ s233 = (vi 21) ∧ p233 = (vi 22)) ∨ (¬ 0 < (vi 21).toInt ∧ (s233 = 1 ∨ s233 = 2) ∧ p233 = (nI f3)) := f33_0
          refine lv_iconst (v := 0) hx hb dX12_readWhole_36 (by decide) ?_
          refine W.widen (k := 0) (n := 0) (by decide +kernel) (by decide +kernel) ?_
          exact W.iret (v := 0) hx hb hr (fun t9_ ht hW => ⟨⟨0, (a3, f3, g3, w3, s233, p233), rfl, by (try dsimp only); exact ⟨hLx3, by omega, by omega, by decide, Or.inl (by omega)⟩, by rw [ht]; exact hP, hD⟩, hS.F ht⟩) hS.2.2 dX12_readWhole_37
    · have f12_0 : ¬ ((vi 18).toInt = 4 ∧ (vi 20) = 45) := f12_0
      refine lv_istore_n hx hb dX12_readWhole_15 rfl hl (by decide) rfl (fun ls (hl : lv_has ls _ ([(1, .int 0), (0, .ref h0)])) => ?_)
      refine lv_iload_n hx hb dX12_readWhole_16 rfl (lv_at hl 0 rfl) ?_
      refine W.cut (pc := 24) (fun H locs ls stk => ∃ (a3 : Nat) (f3 : Nat) (w3 : Int32) (g3 : Int32), (LxO tp f3 a3 w3 g3) ∧ (fn ≤ f3) ∧  stk = [] ∧ va_P (dC, dI) vwCl (WR a k h0 (fT (fT (fT (fT vi 17 (nI a3)) 19 (nI f3)) 18 w3) 20 g3) vj vF vG) H ∧ va_D A (WR a k h0 (fT (fT (fT (fT vi 17 (nI a3)) 19 (nI f3)) 18 w3) 20 g3) vj vF vG) ∧ va_S A s.heap H locs ∧ lv_has ls 3 [(1, .int 0), (0, .ref h0)]) (fun join3 => ?_) ?_
      · refine lv_if_eq (tgt := 24) hx hb dX12_readWhole_17 (by decide) (fun _ => ?_) (fun c9 => absurd (by decide) c9)
        have e9 : fT (fT (fT (fT vi 17 (nI an)) 19 (nI fn)) 18 (vi 18)) 20 (vi 20) = vi := ch_E vi [nI an, nI fn] [(20, 0), (18, 0), (19, 2), (17, 1)] [] [17, 19] ⟨show nI an = vi 17 from (by first | with_reducible rfl | with_reducible assumption | (symm; with_reducible assumption) | rfl | assumption | (symm; assumption) | (subst_vars; rfl)), show nI fn = vi 19 from (by first | with_reducible rfl | with_reducible assumption | (symm; with_reducible assumption) | rfl | assumption | (symm; assumption) | (subst_vars; rfl)), trivial⟩ (by decide +kernel)
        have hP := wr_Pi e9 hP
        have hD := wr_Di e9 hD
        clear e9
        have hl : lv_has _ _ ([(1, .int 0), (0, .ref h0)]) := lv_sub hl [0, 1] rfl
        exact join3 _ _ _ _ ⟨an, fn, (vi 18), (vi 20), hLx, Nat.le_refl _, rfl, hP, hD, hS, hl⟩
      · rintro H locs ls stk ⟨a3, f3, w3, g3, hLx3, hf3, rfl, hP, hD, hS, hl⟩
        have ha3 := hLx3.1
        have hb3 := hLx3.2.1
        refine lv_aload_n hx hb dX12_readWhole_24 rfl (lv_at hl 1 rfl) ?_
        refine va_get (D := (dC, dI)) (ci := 12) (v := .int w3) (C := RX12) (T := TX12) (N := 163) (fs := fM (vS a (fT (fT (fT (fT vi 17 (nI a3)) 19 (nI f3)) 18 w3) 20 g3) vj)) hx hb hts iwsRX12_readWhole_in12 hown hK hP 0 rfl rfl 18 (by decide) (hts _ hm_r_X12_readWhole_0) (fun _ h9 => h9) rfl dX12_readWhole_25 ?_
        refine lv_iconst (v := 3) hx hb dX12_readWhole_28 (by decide) ?_
        refine lv_icmp_eq (tgt := 38) hx hb dX12_readWhole_29 (by decide) (fun c_29 => ?_) (fun c_29 => ?_)
        · have t_29 : (w3).toInt = 3 := toI_eq c_29 rfl (by decide)
          have hnu := hLx3.2.2.2 c_29
          refine lv_iload_n hx hb dX12_readWhole_38 rfl (lv_at hl 0 rfl) ?_
          refine W.cut (pc := 54) (fun H locs ls stk => ∃ (v9 : Int32), (-999999 ≤ (v9).toInt ∧ (v9).toInt ≤ 999999) ∧  stk = [.int v9] ∧ va_P (dC, dI) vwCl (WR a k h0 (fT (fT (fT (fT vi 17 (nI a3)) 19 (nI f3)) 18 w3) 20 g3) vj vF vG) H ∧ va_D A (WR a k h0 (fT (fT (fT (fT vi 17 (nI a3)) 19 (nI f3)) 18 w3) 20 g3) vj vF vG) ∧ va_S A s.heap H locs ∧ lv_has ls 3 [(1, .int 0), (0, .ref h0)]) (fun join4 => ?_) ?_
          · refine lv_if_eq (tgt := 50) hx hb dX12_readWhole_39 (by decide) (fun _ => ?_) (fun c9 => absurd (by decide) c9)
            refine lv_aload_n hx hb dX12_readWhole_50 rfl (lv_at hl 1 rfl) ?_
            refine va_get (D := (dC, dI)) (ci := 12) (v := .int g3) (C := RX12) (T := TX12) (N := 163) (fs := fM (vS a (fT (fT (fT (fT vi 17 (nI a3)) 19 (nI f3)) 18 w3) 20 g3) vj)) hx hb hts iwsRX12_readWhole_in12 hown hK hP 0 rfl rfl 20 (by decide) (hts _ hm_r_X12_readWhole_1) (fun _ h9 => h9) rfl dX12_readWhole_51 ?_
            have hl : lv_has _ _ ([(1, .int 0), (0, .ref h0)]) := lv_sub hl [0, 1] rfl
            exact join4 _ _ _ _ ⟨g3, by (have h9 := neg32 (x := g3) (b := 999999) (by omega) (by decide)); omega, rfl, hP, hD, hS, hl⟩
          · rintro H locs ls stk ⟨v9, hv9, rfl, hP, hD, hS, hl⟩
            refine lv_istore_n hx hb dX12_readWhole_54 rfl hl (by decide) rfl (fun ls (hl : lv_has ls _ ([(2, .int v9), (1, .int 0), (0, .ref h0)])) => ?_)
            refine lv_aload_n hx hb dX12_readWhole_55 rfl (lv_at hl 2 rfl) ?_
            have hFc := allFree hD hS hA
            refine va_callv (va_runV (As := []) (rest := []) ⟨hx, hb, hml, hown, hts⟩ (r_X12_next l dC dI a k h0 (fT (fT (fT (fT vi 17 (nI a3)) 19 (nI f3)) 18 w3) 20 g3) vj vF vG tp a3 hTp (by first | with_reducible assumption | decide | omega | rfl | assumption) rfl (by first | with_reducible assumption | decide | omega | rfl | assumption) H.size) (cwV 0 hts gwsRX12_readWhole_1 rfl rfl rfl hd_yX12_next_RX12 (by decide +kernel)) (fz_preE (va_recv hK hP (ci := 12) (q0 := 0) rfl rfl) hP hK hD (fun a U g mk qE => qE.same rfl) (fun U hU9 hW => by rw [hU9]; exact (((hE : StrA A s s.heap).kept hS.2.1).narrow (fun q h => hFc q h)).warm hW)) rfl rfl hl.1 rfl (lv_room (Nat.le_of_ble_eq_true rfl)) dX12_readWhole_56 (by decide +kernel)) hS (fun q _ h => hFc q h) hFc (fun u t9_ H locs ht hvm hw9 hB9 hz1 hk1 hS => ?_)
            revert u hw9 hB9
            refine fz_p4 ?_
            intro a256_1 f256_1 sg56_1 wd56_1 hw9 hB9
            try dsimp only at hw9 hB9
            have e9i : fT (fT (fT (fT vi 17 (nI a256_1)) 19 (nI f256_1)) 18 wd56_1) 20 sg56_1 = fT (fT (fT (fT (fT (fT (fT (fT vi 17 (nI a3)) 19 (nI f3)) 18 w3) 20 g3) 17 (nI a256_1)) 19 (nI f256_1)) 20 sg56_1) 18 wd56_1 := ch_E vi [nI a256_1, nI f256_1, wd56_1, sg56_1, nI a3, nI f3, w3, g3] [(20, 4), (18, 3), (19, 2), (17, 1)] [(18, 3), (20, 4), (19, 2), (17, 1), (20, 8), (18, 7), (19, 6), (17, 5)] [] trivial (by decide +kernel)
            have hP := wr_Pi e9i (fz_P ht hB9.1)
            have hD := wr_Di e9i (hB9.2.weaken (fun _ q _ h => hFc q.1 h))
            clear e9i
            revert hw9
            refine fz_a2 ?_
            intro f56_1_0 f56_1_1
            refine lv_iload_n hx hb dX12_readWhole_59 rfl (lv_at hl 0 rfl) ?_
            refine W.widen (k := 0) (n := 0) (by decide +kernel) (by decide +kernel) ?_
            have e9 : fT (fT (fT (fT (fT (fT vi 17 (nI a256_1)) 19 (nI f256_1)) 18 wd56_1) 20 sg56_1) 21 (vi 21)) 22 (vi 22) = fT (fT (fT (fT vi 17 (nI a256_1)) 19 (nI f256_1)) 18 wd56_1) 20 sg56_1 := (fT_id _ _ ((fT_ne _ _ (Nat.ne_of_beq_eq_false rfl)).trans ((fT_ne _ _ (Nat.ne_of_beq_eq_false rfl)).trans ((fT_ne _ _ (Nat.ne_of_beq_eq_false rfl)).trans ((fT_ne _ _ (Nat.ne_of_beq_eq_false rfl)).trans (fT_ne _ _ (Nat.ne_of_beq_eq_false rfl))))))).trans (fT_id _ _ ((fT_ne _ _ (Nat.ne_of_beq_eq_false rfl)).trans ((fT_ne _ _ (Nat.ne_of_beq_eq_false rfl)).trans ((fT_ne _ _ (Nat.ne_of_beq_eq_false rfl)).trans (fT_ne _ _ (Nat.ne_of_beq_eq_false rfl))))))
            have hP := wr_Pi e9 hP
            have hD := wr_Di e9 hD
            clear e9
            exact W.iret (v := v9) hx hb hr (fun t9_ ht hW => ⟨⟨v9, (a256_1, f256_1, sg56_1, wd56_1, (vi 21), (vi 22)), rfl, by (try dsimp only); exact ⟨f56_1_0, by omega, hst0, hv9, Or.inr (i32z (by omega))⟩, by rw [ht]; exact hP, hD⟩, hS.F ht⟩) hS.2.2 dX12_readWhole_60
        · have t_29 : ¬ (w3).toInt = 3 := toI_neq c_29 rfl (by decide)
          refine lv_aload_n hx hb dX12_readWhole_32 rfl (lv_at hl 1 rfl) ?_
          have hFc := allFree hD hS hA
          refine va_callv (va_runV (As := []) (rest := []) ⟨hx, hb, hml, hown, hts⟩ (r_X12_wrong l dC dI a k h0 (fT (fT (fT (fT vi 17 (nI a3)) 19 (nI f3)) 18 w3) 20 g3) vj vF vG H.size) (cwV 0 hts gwsRX12_readWhole_2 rfl rfl rfl hd_yX12_wrong_RX12 (by decide +kernel)) (fz_pre (va_recv hK hP (ci := 12) (q0 := 0) rfl rfl) hP hK hD) rfl rfl hl.1 rfl (lv_room (Nat.le_of_ble_eq_true rfl)) dX12_readWhole_33 (by decide +kernel)) hS (fun q _ h => hFc q h) hFc (fun u t9_ H locs ht hvm hw9 hB9 hz1 hk1 hS => ?_)
          revert u hw9 hB9
          refine fz_p2 ?_
          intro s233_1 p233_1 hw9 hB9
          try dsimp only at hw9 hB9
          have hP : va_P (dC, dI) vwCl (WR a k h0 (fT (fT (fT (fT (fT (fT vi 17 (nI a3)) 19 (nI f3)) 18 w3) 20 g3) 21 s233_1) 22 p233_1) vj vF vG) H := fz_P ht hB9.1
          have hD := fz_sd hP (hB9.2.weaken (fun _ q _ h => hFc q.1 h)) rfl
          revert hw9
          refine fz_a2 ?_
          intro f33_1_0 f33_1_1
          have f33_1_0 : (0 < (vi 21).toInt ∧ s233_1 = (vi 21) ∧ p233_1 = (vi 22)) ∨ (¬ 0 < (vi 21).toInt ∧ (s233_1 = 1 ∨ s233_1 = 2) ∧ p233_1 = (nI f3)) := f33_1_0
          refine lv_iconst (v := 0) hx hb dX12_readWhole_36 (by decide) ?_
          refine W.widen (k := 0) (n := 0) (by decide +kernel) (by decide +kernel) ?_
          exact W.iret (v := 0) hx hb hr (fun t9_ ht hW => ⟨⟨0, (a3, f3, g3, w3, s233_1, p233_1), rfl, by (try dsimp only); exact ⟨hLx3, by omega, by omega, by decide, Or.inl (by omega)⟩, by rw [ht]; exact hP, hD⟩, hS.F ht⟩) hS.2.2 dX12_readWhole_37
  · have t_4 : ¬ ((vi 21)).toInt ≤ 0 := toI_nle c_4 rfl (by decide)
    refine lv_iconst (v := 0) hx hb dX12_readWhole_7 (by decide) ?_
    refine W.widen (k := 0) (n := 0) (by decide +kernel) (by decide +kernel) ?_
    have e9 : fT (fT (fT (fT (fT (fT vi 17 (nI an)) 19 (nI fn)) 18 (vi 18)) 20 (vi 20)) 21 (vi 21)) 22 (vi 22) = vi := ch_E vi [nI an, nI fn] [(22, 0), (21, 0), (20, 0), (18, 0), (19, 2), (17, 1)] [] [17, 19] ⟨show nI an = vi 17 from (by first | with_reducible rfl | with_reducible assumption | (symm; with_reducible assumption) | rfl | assumption | (symm; assumption) | (subst_vars; rfl)), show nI fn = vi 19 from (by first | with_reducible rfl | with_reducible assumption | (symm; with_reducible assumption) | rfl | assumption | (symm; assumption) | (subst_vars; rfl)), trivial⟩ (by decide +kernel)
    have hP := wr_Pi e9 hP
    have hD := wr_Di e9 hD
    clear e9
    exact W.iret (v := 0) hx hb hr (fun t9_ ht hW => ⟨⟨0, (an, fn, (vi 20), (vi 18), (vi 21), (vi 22)), rfl, by (try dsimp only); exact ⟨hLx, Nat.le_refl _, hst0, by decide, Or.inl (by omega)⟩, by rw [ht]; exact hP, hD⟩, hS.F ht⟩) hS.2.2 dX12_readWhole_8
theorem dX12_readOwn_0 : decode cX12_readOwn 0 = .ok (.aload_n 0, 1) := dk_42 (by decide +kernel)
theorem dX12_readOwn_1 : decode cX12_readOwn 1 = .ok (.getfield 494, 3) := dk_180 (by decide +kernel)
theorem dX12_readOwn_4 : decode cX12_readOwn 4 = .ok (.iconst 1, 1) := dk_4 (by decide +kernel)
theorem dX12_readOwn_5 : decode cX12_readOwn 5 = .ok (.if_icmp .eq 8, 3) := dk_159 (by decide +kernel)
theorem dX12_readOwn_8 : decode cX12_readOwn 8 = .ok (.aload_n 0, 1) := dk_42 (by decide +kernel)
theorem dX12_readOwn_9 : decode cX12_readOwn 9 = .ok (.invokevirtual 527, 3) := dk_182 (by decide +kernel)
theorem dX12_readOwn_12 : decode cX12_readOwn 12 = .ok (.return_, 1) := dk_177 (by decide +kernel)
theorem dX12_readOwn_13 : decode cX12_readOwn 13 = .ok (.aload_n 0, 1) := dk_42 (by decide +kernel)
theorem dX12_readOwn_14 : decode cX12_readOwn 14 = .ok (.invokevirtual 555, 3) := dk_182 (by decide +kernel)
theorem dX12_readOwn_17 : decode cX12_readOwn 17 = .ok (.iconst (-1), 1) := dk_2 (by decide +kernel)
theorem dX12_readOwn_18 : decode cX12_readOwn 18 = .ok (.if_icmp .eq 16, 3) := dk_159 (by decide +kernel)
theorem dX12_readOwn_21 : decode cX12_readOwn 21 = .ok (.aload_n 0, 1) := dk_42 (by decide +kernel)
theorem dX12_readOwn_22 : decode cX12_readOwn 22 = .ok (.bipush 10, 2) := dk_16 (by decide +kernel)
theorem dX12_readOwn_24 : decode cX12_readOwn 24 = .ok (.aload_n 0, 1) := dk_42 (by decide +kernel)
theorem dX12_readOwn_25 : decode cX12_readOwn 25 = .ok (.getfield 488, 3) := dk_180 (by decide +kernel)
theorem dX12_readOwn_28 : decode cX12_readOwn 28 = .ok (.invokevirtual 518, 3) := dk_182 (by decide +kernel)
theorem dX12_readOwn_31 : decode cX12_readOwn 31 = .ok (.goto 21, 3) := dk_167 (by decide +kernel)
theorem dX12_readOwn_34 : decode cX12_readOwn 34 = .ok (.aload_n 0, 1) := dk_42 (by decide +kernel)
theorem dX12_readOwn_35 : decode cX12_readOwn 35 = .ok (.getfield 533, 3) := dk_180 (by decide +kernel)
theorem dX12_readOwn_38 : decode cX12_readOwn 38 = .ok (.bipush 40, 2) := dk_16 (by decide +kernel)
theorem dX12_readOwn_40 : decode cX12_readOwn 40 = .ok (.if_icmp .ne 12, 3) := dk_160 (by decide +kernel)
theorem dX12_readOwn_43 : decode cX12_readOwn 43 = .ok (.aload_n 0, 1) := dk_42 (by decide +kernel)
theorem dX12_readOwn_44 : decode cX12_readOwn 44 = .ok (.iconst 4, 1) := dk_7 (by decide +kernel)
theorem dX12_readOwn_45 : decode cX12_readOwn 45 = .ok (.aload_n 0, 1) := dk_42 (by decide +kernel)
theorem dX12_readOwn_46 : decode cX12_readOwn 46 = .ok (.getfield 488, 3) := dk_180 (by decide +kernel)
theorem dX12_readOwn_49 : decode cX12_readOwn 49 = .ok (.invokevirtual 518, 3) := dk_182 (by decide +kernel)
theorem dX12_readOwn_52 : decode cX12_readOwn 52 = .ok (.aload_n 0, 1) := dk_42 (by decide +kernel)
theorem dX12_readOwn_53 : decode cX12_readOwn 53 = .ok (.getfield 515, 3) := dk_180 (by decide +kernel)
theorem dX12_readOwn_56 : decode cX12_readOwn 56 = .ok (.ifCond .le 4, 3) := dk_158 (by decide +kernel)
theorem dX12_readOwn_59 : decode cX12_readOwn 59 = .ok (.return_, 1) := dk_177 (by decide +kernel)
theorem dX12_readOwn_60 : decode cX12_readOwn 60 = .ok (.aload_n 0, 1) := dk_42 (by decide +kernel)
theorem dX12_readOwn_61 : decode cX12_readOwn 61 = .ok (.aload_n 0, 1) := dk_42 (by decide +kernel)
theorem dX12_readOwn_62 : decode cX12_readOwn 62 = .ok (.getfield 488, 3) := dk_180 (by decide +kernel)
theorem dX12_readOwn_65 : decode cX12_readOwn 65 = .ok (.putfield 68, 3) := dk_181 (by decide +kernel)
theorem dX12_readOwn_68 : decode cX12_readOwn 68 = .ok (.aload_n 0, 1) := dk_42 (by decide +kernel)
theorem dX12_readOwn_69 : decode cX12_readOwn 69 = .ok (.aload_n 0, 1) := dk_42 (by decide +kernel)
theorem dX12_readOwn_70 : decode cX12_readOwn 70 = .ok (.getfield 485, 3) := dk_180 (by decide +kernel)
theorem dX12_readOwn_73 : decode cX12_readOwn 73 = .ok (.aload_n 0, 1) := dk_42 (by decide +kernel)
theorem dX12_readOwn_74 : decode cX12_readOwn 74 = .ok (.getfield 488, 3) := dk_180 (by decide +kernel)
theorem dX12_readOwn_77 : decode cX12_readOwn 77 = .ok (.isub, 1) := dk_100 (by decide +kernel)
theorem dX12_readOwn_78 : decode cX12_readOwn 78 = .ok (.putfield 552, 3) := dk_181 (by decide +kernel)
theorem dX12_readOwn_81 : decode cX12_readOwn 81 = .ok (.aload_n 0, 1) := dk_42 (by decide +kernel)
theorem dX12_readOwn_82 : decode cX12_readOwn 82 = .ok (.invokevirtual 524, 3) := dk_182 (by decide +kernel)
theorem dX12_readOwn_85 : decode cX12_readOwn 85 = .ok (.return_, 1) := dk_177 (by decide +kernel)
def wsRX12_readOwn : List Cond := .code yX12_readOwn cX12_readOwn 1 none :: ([.fieldLink RX12 494 "OptimaWorksModel" "word" "I", .fieldLink RX12 533 "OptimaWorksModel" "names" "I", .fieldLink RX12 515 "OptimaWorksModel" "stop" "I", .fieldLink RX12 488 "OptimaWorksModel" "from" "I", .fieldLink RX12 68 "OptimaWorksModel" "ownFrom" "I", .fieldLink RX12 485 "OptimaWorksModel" "at0" "I", .fieldLink RX12 552 "OptimaWorksModel" "ownLong" "I"] ++ wsX120 ++ (wsV RX12 555 RX12 yX12_declared wsRX12_declared) ++ (wsV RX12 524 RX12 yX12_next wsRX12_next) ++ (wsV RX12 518 RX12 yX12_faultAt wsRX12_faultAt) ++ (wsV RX12 527 RX12 yX12_wrong wsRX12_wrong))
theorem iwsRX12_readOwn_in12 : ∀ w ∈ wsX120, w ∈ wsRX12_readOwn := fun _ h => List.mem_cons_of_mem _ (List.mem_append_left _ (List.mem_append_left _ (List.mem_append_left _ (List.mem_append_left _ (List.mem_append_right _ h)))))
theorem gwsRX12_readOwn_0 : GoodIn wsRX12_readOwn (wsV RX12 555 RX12 yX12_declared wsRX12_declared) := goodIn_sub (fun _ h => List.mem_cons_of_mem _ (List.mem_append_left _ (List.mem_append_left _ (List.mem_append_left _ (List.mem_append_right _ h))))) (gdV (by decide +kernel) gdwsRX12_declared)
theorem gwsRX12_readOwn_1 : GoodIn wsRX12_readOwn (wsV RX12 524 RX12 yX12_next wsRX12_next) := goodIn_sub (fun _ h => List.mem_cons_of_mem _ (List.mem_append_left _ (List.mem_append_left _ (List.mem_append_right _ h)))) (gdV (by decide +kernel) gdwsRX12_next)
theorem gwsRX12_readOwn_2 : GoodIn wsRX12_readOwn (wsV RX12 518 RX12 yX12_faultAt wsRX12_faultAt) := goodIn_sub (fun _ h => List.mem_cons_of_mem _ (List.mem_append_left _ (List.mem_append_right _ h))) (gdV (by decide +kernel) gdwsRX12_faultAt)
theorem gwsRX12_readOwn_3 : GoodIn wsRX12_readOwn (wsV RX12 527 RX12 yX12_wrong wsRX12_wrong) := goodIn_sub (fun _ h => List.mem_cons_of_mem _ (List.mem_append_right _ h)) (gdV (by decide +kernel) gdwsRX12_wrong)
theorem gdwsRX12_readOwn : wsRX12_readOwn.all goodWord = true := gdC rfl (gdA (gdA (gdA (gdA (gdA (by decide +kernel : ([.fieldLink RX12 494 "OptimaWorksModel" "word" "I", .fieldLink RX12 533 "OptimaWorksModel" "names" "I", .fieldLink RX12 515 "OptimaWorksModel" "stop" "I", .fieldLink RX12 488 "OptimaWorksModel" "from" "I", .fieldLink RX12 68 "OptimaWorksModel" "ownFrom" "I", .fieldLink RX12 485 "OptimaWorksModel" "at0" "I", .fieldLink RX12 552 "OptimaWorksModel" "ownLong" "I"] : List Cond).all goodWord = true) gdwsX120) (gdV (by decide +kernel) gdwsRX12_declared)) (gdV (by decide +kernel) gdwsRX12_next)) (gdV (by decide +kernel) gdwsRX12_faultAt)) (gdV (by decide +kernel) gdwsRX12_wrong))
theorem hm_r_X12_readOwn_0 : (.fieldLink RX12 533 "OptimaWorksModel" "names" "I" : Cond) ∈ wsRX12_readOwn := by decide +kernel
theorem hm_r_X12_readOwn_1 : (.fieldLink RX12 515 "OptimaWorksModel" "stop" "I" : Cond) ∈ wsRX12_readOwn := by decide +kernel
theorem hm_r_X12_readOwn_2 : (.fieldLink RX12 488 "OptimaWorksModel" "from" "I" : Cond) ∈ wsRX12_readOwn := by decide +kernel
theorem hm_r_X12_readOwn_3 : (.fieldLink RX12 68 "OptimaWorksModel" "ownFrom" "I" : Cond) ∈ wsRX12_readOwn := by decide +kernel
theorem hm_r_X12_readOwn_4 : (.fieldLink RX12 485 "OptimaWorksModel" "at0" "I" : Cond) ∈ wsRX12_readOwn := by decide +kernel
theorem hm_r_X12_readOwn_5 : (.fieldLink RX12 552 "OptimaWorksModel" "ownLong" "I" : Cond) ∈ wsRX12_readOwn := by decide +kernel
set_option maxHeartbeats 4000000 in
set_option maxRecDepth 100000 in
/-- readOwn() -/
theorem r_X12_readOwn (l : Launch) (dC : Nat → ClassId) (dI : Nat → Nat → Nat) (a : Nat → Nat) (k : Nat → ClassId) (h0 : Nat) (vi : Nat → Int32) (vj : Nat → Int64) (vF : Nat → Nat → Int32) (vG : Nat → Nat → Int64) (tp : Nat) (an : Nat) (fn : Nat) (nm : Nat) (se : Nat) (pa : Nat) (va : Nat) (hTp : vi 16 = nI tp) (htp : tp ≤ 4000) (ha0 : vi 17 = nI an) (hfr : vi 19 = nI fn) (hLx : LxO tp fn an (vi 18) (vi 20)) (hst0 : 0 ≤ (vi 21).toInt) (hnm : vi 25 = nI nm) (hnm40 : nm ≤ 40) (hno : NmO (vF 11) (vF 12) nm) (hNk : NkO (vF 10) (vF 13) nm se pa va) (sz : Nat) : Met l yX12_readOwn wsRX12_readOwn ({ frames := 8, cells := 0, slots := 0, locals := 173 }) (va_Pc [.ref h0] (fun U => U.heap.size = sz ∧ va_P (dC, dI) vwCl (WR a k h0 vi vj vF vG) U.heap ∧ va_K (dC, dI) vwCl (tX12 k) U ∧ va_D (fun _ => True) (WR a k h0 vi vj vF vG) ∧ StrA (va_A (WR a k h0 vi vj vF vG) sz) U U.heap)) (va_Qv (fun (u : (Nat) × (Nat) × (Int32) × (Int32) × (Int32) × (Int32) × (Int32) × (Int32)) => (LxO tp (u.2.1) (u.1) (u.2.2.2.1) (u.2.2.1)) ∧ (fn ≤ (u.2.1)) ∧ (0 ≤ ((u.2.2.2.2.1)).toInt) ∧ ((0 < ((u.2.2.2.2.1)).toInt ∧ (u.2.2.2.2.2.2.1) = vi 33 ∧ (u.2.2.2.2.2.2.2) = vi 34) ∨ ((u.2.2.2.2.1) = 0 ∧ fn < (u.2.1) ∧ nm < 40 ∧ ∃ x y : Nat, (u.2.2.2.2.2.2.1) = nI x ∧ (u.2.2.2.2.2.2.2) = nI y ∧ x + y ≤ 4000))) (fun (u : (Nat) × (Nat) × (Int32) × (Int32) × (Int32) × (Int32) × (Int32) × (Int32)) t => va_P (dC, dI) vwCl (WR a k h0 (fT (fT (fT (fT (fT (fT (fT (fT vi 33 (u.2.2.2.2.2.2.1)) 34 (u.2.2.2.2.2.2.2)) 17 (nI (u.1))) 19 (nI (u.2.1))) 20 (u.2.2.1)) 18 (u.2.2.2.1)) 21 (u.2.2.2.2.1)) 22 (u.2.2.2.2.2.1)) vj vF vG) t.heap ∧ va_D (va_A (WR a k h0 vi vj vF vG) sz) (WR a k h0 (fT (fT (fT (fT (fT (fT (fT (fT vi 33 (u.2.2.2.2.2.2.1)) 34 (u.2.2.2.2.2.2.2)) 17 (nI (u.1))) 19 (nI (u.2.1))) 20 (u.2.2.1)) 18 (u.2.2.2.1)) 21 (u.2.2.2.2.1)) 22 (u.2.2.2.2.2.1)) vj vF vG)) (va_A (WR a k h0 vi vj vF vG) sz)) 0 0 (va_A (WR a k h0 vi vj vF vG) sz) := by
  refine Met.ofW (cc := cX12_readOwn) (maxL := 1) (ret := none) (by decide) rfl ?_
  intro p e s m args below meth c s₁ B hml hv
  obtain ⟨rfl, hsz, hP, hK, hD0, hE⟩ := hv
  have hx := B.exec
  have hb := B.bytes
  have hr := B.returns
  have hts := atoms_spec (ws := wsRX12_readOwn) B.pre
  have hown : s.vm.findClass RX12 = some m.cls := findClass_of_methodNamed B.named
  have hlocks := B.notSynchronized
  subst hsz
  have hD := hD0.self (sz := s.heap.size)
  generalize hAe : va_A (WR a k h0 vi vj vF vG) s.heap.size = A at hD hE ⊢
  have hA : ∀ q : Nat, s.heap.size ≤ q → A q := fun q h => by rw [← hAe]; exact Or.inr h
  have hS : va_S A s.heap s.heap [] := va_S.rf
  have hl := lv_entry ([.ref h0]) (n := 1) (Nat.le_of_ble_eq_true rfl)
  rw [lg_entry_eq]
  generalize (lg_sl ([.ref h0]) ++ List.replicate (1 - (lg_sl ([.ref h0])).length) Slot.unset).toArray = ls at hl ⊢
  have hl : lv_has ls 1 [(0, .ref h0)] := hl
  have hfa := hLx.1
  have han := hLx.2.1
  have han4 : an ≤ 4000 := by omega
  refine lv_aload_n hx hb dX12_readOwn_0 rfl (lv_at hl 0 rfl) ?_
  refine va_get (D := (dC, dI)) (ci := 12) (v := .int (vi 18)) (C := RX12) (T := TX12) (N := 163) (fs := fM (vS a vi vj)) hx hb hts iwsRX12_readOwn_in12 hown hK hP 0 rfl rfl 18 (by decide) (hts (.fieldLink RX12 494 "OptimaWorksModel" "word" "I") (by decide +kernel)) (fun _ h9 => h9) rfl dX12_readOwn_1 ?_
  refine lv_iconst (v := 1) hx hb dX12_readOwn_4 (by decide) ?_
  refine lv_icmp_eq (tgt := 13) hx hb dX12_readOwn_5 (by decide) (fun c_5 => ?_) (fun c_5 => ?_)
  · have t_5 : ((vi 18)).toInt = 1 := toI_eq c_5 rfl (by decide)
    refine lv_aload_n hx hb dX12_readOwn_13 rfl (lv_at hl 0 rfl) ?_
    have hFc := allFree hD hS hA
    refine va_calli (va_runV (As := []) (rest := []) ⟨hx, hb, hml, hown, hts⟩ (r_X12_declared l dC dI a k h0 vi vj vF vG an fn nm ha0 hfr (by first | with_reducible assumption | decide | omega | rfl | assumption) (by first | with_reducible assumption | decide | omega | rfl | assumption) hnm (by first | with_reducible assumption | decide | omega | rfl | assumption) (by first | with_reducible assumption | decide | omega | rfl | assumption) s.heap.size) (cwV 0 hts gwsRX12_readOwn_0 rfl rfl rfl hd_yX12_declared_RX12 (by decide +kernel)) (fz_pre (va_recv hK hP (ci := 12) (q0 := 0) rfl rfl) hP hK hD) rfl rfl hl.1 rfl (lv_room (Nat.le_of_ble_eq_true rfl)) dX12_readOwn_14 (by decide +kernel)) hS (fun q _ h => hFc q h) hFc (fun r14 kx14 t9_ H locs ht hvm hw9 hB9 hz1 hk1 hS => ?_)
    have hP : va_P (dC, dI) vwCl (WR a k h0 vi vj vF vG) H := fz_P ht hB9.1
    have hD := fz_sd hP (hB9.2.weaken (fun _ q _ h => hFc q.1 h)) rfl
    rcases hw9 with rfl | ⟨rfl, f14_0⟩
    · refine lv_iconst (v := (-1)) hx hb dX12_readOwn_17 (by decide) ?_
      refine lv_icmp_eq (tgt := 34) hx hb dX12_readOwn_18 (by decide) (fun _ => ?_) (fun c9 => absurd (by decide) c9)
      refine lv_aload_n hx hb dX12_readOwn_34 rfl (lv_at hl 0 rfl) ?_
      refine va_get (D := (dC, dI)) (ci := 12) (v := .int (vi 25)) (C := RX12) (T := TX12) (N := 163) (fs := fM (vS a vi vj)) hx hb hts iwsRX12_readOwn_in12 hown hK hP 0 rfl rfl 25 (by decide) (hts _ hm_r_X12_readOwn_0) (fun _ h9 => h9) rfl dX12_readOwn_35 ?_
      refine lv_topi (fun y1 hy1 => ?_)
      obtain rfl : (nI nm) = y1 := (hy1.trans (hnm)).symm
      refine lv_bipush (v := 40) hx hb dX12_readOwn_38 (by decide) ?_
      refine lv_icmp_ne (tgt := 52) hx hb dX12_readOwn_40 (by decide) (fun c_40 => ?_) (fun c_40 => ?_)
      · have t_40 : ((nm : Nat) : Int) ≠ 40 := toI_ne c_40 (nI_toInt (by omega)) (by decide)
        refine lv_aload_n hx hb dX12_readOwn_52 rfl (lv_at hl 0 rfl) ?_
        refine va_get (D := (dC, dI)) (ci := 12) (v := .int (vi 21)) (C := RX12) (T := TX12) (N := 163) (fs := fM (vS a vi vj)) hx hb hts iwsRX12_readOwn_in12 hown hK hP 0 rfl rfl 21 (by decide) (hts _ hm_r_X12_readOwn_1) (fun _ h9 => h9) rfl dX12_readOwn_53 ?_
        refine lv_if_le (tgt := 60) hx hb dX12_readOwn_56 (by decide) (fun c_56 => ?_) (fun c_56 => ?_)
        · have t_56 : ((vi 21)).toInt ≤ 0 := toI_le c_56 rfl (by decide)
          have hfl := hLx.2.2.1.resolve_left (fun h => by rw [h] at c_5; exact absurd c_5 (by decide))
          refine lv_aload_n hx hb dX12_readOwn_60 rfl (lv_at hl 0 rfl) ?_
          refine lv_aload_n hx hb dX12_readOwn_61 rfl (lv_at hl 0 rfl) ?_
          refine va_get (D := (dC, dI)) (ci := 12) (v := .int (vi 19)) (C := RX12) (T := TX12) (N := 163) (fs := fM (vS a vi vj)) hx hb hts iwsRX12_readOwn_in12 hown hK hP 0 rfl rfl 19 (by decide) (hts _ hm_r_X12_readOwn_2) (fun _ h9 => h9) rfl dX12_readOwn_62 ?_
          refine lv_topi (fun y2 hy2 => ?_)
          obtain rfl : (nI fn) = y2 := (hy2.trans (hfr)).symm
          refine va_put (D := (dC, dI)) (ci := 12) (v := .int (nI fn)) (ty := .int) (C := RX12) (T := TX12) (N := 163) (fs := fM (vS a vi vj)) hx hb hts iwsRX12_readOwn_in12 tyX12 tyX12_ok nmX12 hown hK hP hD hS 0 rfl rfl 33 (by decide) (hts _ hm_r_X12_readOwn_3) (fun _ h9 => h9) rfl (by decide +kernel) rfl rfl (Nat.le_of_ble_eq_true rfl) dX12_readOwn_65 (fun H locs hP hD hS => ?_)
          have hP : va_P (dC, dI) vwCl (WR a k h0 (fT vi 33 (nI fn)) vj vF vG) H := fz_w (WR_i 33 _ rfl) hP
          have hD : va_D A (WR a k h0 (fT vi 33 (nI fn)) vj vF vG) := fz_wD (WR_i 33 _ rfl) hD
          refine lv_aload_n hx hb dX12_readOwn_68 rfl (lv_at hl 0 rfl) ?_
          refine lv_aload_n hx hb dX12_readOwn_69 rfl (lv_at hl 0 rfl) ?_
          refine va_get (D := (dC, dI)) (ci := 12) (v := .int (vi 17)) (C := RX12) (T := TX12) (N := 163) (fs := fM (vS a (fT vi 33 (nI fn)) vj)) hx hb hts iwsRX12_readOwn_in12 hown hK hP 0 rfl rfl 17 (by decide) (hts _ hm_r_X12_readOwn_4) (fun _ h9 => h9) rfl dX12_readOwn_70 ?_
          refine lv_topi (fun y3 hy3 => ?_)
          obtain rfl : (nI an) = y3 := (hy3.trans (ha0)).symm
          refine lv_aload_n hx hb dX12_readOwn_73 rfl (lv_at hl 0 rfl) ?_
          refine va_get (D := (dC, dI)) (ci := 12) (v := .int (vi 19)) (C := RX12) (T := TX12) (N := 163) (fs := fM (vS a (fT vi 33 (nI fn)) vj)) hx hb hts iwsRX12_readOwn_in12 hown hK hP 0 rfl rfl 19 (by decide) (hts _ hm_r_X12_readOwn_2) (fun _ h9 => h9) rfl dX12_readOwn_74 ?_
          refine lv_topi (fun y4 hy4 => ?_)
          obtain rfl : (nI fn) = y4 := (hy4.trans (hfr)).symm
          refine lv_isub hx hb dX12_readOwn_77 ?_
          refine lv_topi (fun y5 hy5 => ?_)
          obtain rfl : (nI (an - fn)) = y5 := (hy5.trans (pk_sub (a := an) (b := fn) (by omega))).symm
          refine va_put (D := (dC, dI)) (ci := 12) (v := .int (nI (an - fn))) (ty := .int) (C := RX12) (T := TX12) (N := 163) (fs := fM (vS a (fT vi 33 (nI fn)) vj)) hx hb hts iwsRX12_readOwn_in12 tyX12 tyX12_ok nmX12 hown hK hP hD hS 0 rfl rfl 34 (by decide) (hts _ hm_r_X12_readOwn_5) (fun _ h9 => h9) rfl (by decide +kernel) rfl rfl (Nat.le_of_ble_eq_true rfl) dX12_readOwn_78 (fun H locs hP hD hS => ?_)
          have hP : va_P (dC, dI) vwCl (WR a k h0 (fT (fT vi 33 (nI fn)) 34 (nI (an - fn))) vj vF vG) H := fz_w (WR_i 34 _ rfl) hP
          have hD : va_D A (WR a k h0 (fT (fT vi 33 (nI fn)) 34 (nI (an - fn))) vj vF vG) := fz_wD (WR_i 34 _ rfl) hD
          refine lv_aload_n hx hb dX12_readOwn_81 rfl (lv_at hl 0 rfl) ?_
          have hFc := allFree hD hS hA
          refine va_callv (va_runV (As := []) (rest := []) ⟨hx, hb, hml, hown, hts⟩ (r_X12_next l dC dI a k h0 (fT (fT vi 33 (nI fn)) 34 (nI (an - fn))) vj vF vG tp an hTp (by first | with_reducible assumption | decide | omega | rfl | assumption) ha0 (by first | with_reducible assumption | decide | omega | rfl | assumption) H.size) (cwV 0 hts gwsRX12_readOwn_1 rfl rfl rfl hd_yX12_next_RX12 (by decide +kernel)) (fz_preE (va_recv hK hP (ci := 12) (q0 := 0) rfl rfl) hP hK hD (fun a U g mk qE => qE.same rfl) (fun U hU9 hW => by rw [hU9]; exact (((hE : StrA A s s.heap).kept hS.2.1).narrow (fun q h => hFc q h)).warm hW)) rfl rfl hl.1 rfl (lv_room (Nat.le_of_ble_eq_true rfl)) dX12_readOwn_82 (by decide +kernel)) hS (fun q _ h => hFc q h) hFc (fun u t9_ H locs ht hvm hw9 hB9 hz1 hk1 hS => ?_)
          revert u hw9 hB9
          refine fz_p4 ?_
          intro a282 f282 sg82 wd82 hw9 hB9
          try dsimp only at hw9 hB9
          have hP : va_P (dC, dI) vwCl (WR a k h0 (fT (fT (fT (fT (fT (fT vi 33 (nI fn)) 34 (nI (an - fn))) 17 (nI a282)) 19 (nI f282)) 20 sg82) 18 wd82) vj vF vG) H := fz_P ht hB9.1
          have hD := fz_sd hP (hB9.2.weaken (fun _ q _ h => hFc q.1 h)) rfl
          revert hw9
          refine fz_a2 ?_
          intro f82_0 f82_1
          refine W.widen (k := 0) (n := 0) (by decide +kernel) (by decide +kernel) ?_
          have e9 : fT (fT (fT (fT (fT (fT (fT (fT vi 33 (nI fn)) 34 (nI (an - fn))) 17 (nI a282)) 19 (nI f282)) 20 sg82) 18 wd82) 21 (vi 21)) 22 (vi 22) = fT (fT (fT (fT (fT (fT vi 33 (nI fn)) 34 (nI (an - fn))) 17 (nI a282)) 19 (nI f282)) 20 sg82) 18 wd82 := ch_E vi [nI fn, nI (an - fn), nI a282, nI f282, sg82, wd82] [(22, 0), (21, 0), (18, 6), (20, 5), (19, 4), (17, 3), (34, 2), (33, 1)] [(18, 6), (20, 5), (19, 4), (17, 3), (34, 2), (33, 1)] [] trivial (by decide +kernel)
          have hP := wr_Pi e9 hP
          have hD := wr_Di e9 hD
          clear e9
          exact W.vret hx hb hr (fun t9_ ht hW => ⟨⟨(a282, f282, sg82, wd82, (vi 21), (vi 22), (nI fn), (nI (an - fn))), rfl, by (try dsimp only); exact ⟨f82_0, by omega, hst0, Or.inr ⟨i32z (by omega), by omega, by omega, fn, an - fn, rfl, rfl, by omega⟩⟩, by rw [ht]; exact hP, hD⟩, hS.F ht⟩) hS.2.2 dX12_readOwn_85
        · have t_56 : ¬ ((vi 21)).toInt ≤ 0 := toI_nle c_56 rfl (by decide)
          refine W.widen (k := 0) (n := 0) (by decide +kernel) (by decide +kernel) ?_
          have e9 : fT (fT (fT (fT (fT (fT (fT (fT vi 33 (vi 33)) 34 (vi 34)) 17 (nI an)) 19 (nI fn)) 20 (vi 20)) 18 (vi 18)) 21 (vi 21)) 22 (vi 22) = vi := ch_E vi [nI an, nI fn] [(22, 0), (21, 0), (18, 0), (20, 0), (19, 2), (17, 1), (34, 0), (33, 0)] [] [17, 19] ⟨show nI an = vi 17 from (by first | with_reducible rfl | with_reducible assumption | (symm; with_reducible assumption) | rfl | assumption | (symm; assumption) | (subst_vars; rfl)), show nI fn = vi 19 from (by first | with_reducible rfl | with_reducible assumption | (symm; with_reducible assumption) | rfl | assumption | (symm; assumption) | (subst_vars; rfl)), trivial⟩ (by decide +kernel)
          have hP := wr_Pi e9 hP
          have hD := wr_Di e9 hD
          clear e9
          exact W.vret hx hb hr (fun t9_ ht hW => ⟨⟨(an, fn, (vi 20), (vi 18), (vi 21), (vi 22), (vi 33), (vi 34)), rfl, by (try dsimp only); exact ⟨hLx, Nat.le_refl _, by omega, Or.inl ⟨by omega, rfl, rfl⟩⟩, by rw [ht]; exact hP, hD⟩, hS.F ht⟩) hS.2.2 dX12_readOwn_59
      · have t_40 : ((nm : Nat) : Int) = 40 := toI_nne c_40 (nI_toInt (by omega)) (by decide)
        refine lv_aload_n hx hb dX12_readOwn_43 rfl (lv_at hl 0 rfl) ?_
        refine lv_iconst (v := 4) hx hb dX12_readOwn_44 (by decide) ?_
        refine lv_aload_n hx hb dX12_readOwn_45 rfl (lv_at hl 0 rfl) ?_
        refine va_get (D := (dC, dI)) (ci := 12) (v := .int (vi 19)) (C := RX12) (T := TX12) (N := 163) (fs := fM (vS a vi vj)) hx hb hts iwsRX12_readOwn_in12 hown hK hP 0 rfl rfl 19 (by decide) (hts _ hm_r_X12_readOwn_2) (fun _ h9 => h9) rfl dX12_readOwn_46 ?_
        refine lv_topi (fun y6 hy6 => ?_)
        obtain rfl : (nI fn) = y6 := (hy6.trans (hfr)).symm
        have hFc := allFree hD hS hA
        refine va_callv (va_runV (As := [.int 4, .int (nI fn)]) (rest := []) ⟨hx, hb, hml, hown, hts⟩ (r_X12_faultAt l dC dI a k h0 vi vj vF vG 4 (nI fn) (by first | with_reducible assumption | decide | omega | rfl | assumption) H.size) (cwV 2 hts gwsRX12_readOwn_2 rfl rfl rfl hd_yX12_faultAt_RX12 (by decide +kernel)) (fz_pre (va_recv hK hP (ci := 12) (q0 := 0) rfl rfl) hP hK hD) rfl rfl hl.1 rfl (lv_room (Nat.le_of_ble_eq_true rfl)) dX12_readOwn_49 (by decide +kernel)) hS (fun q _ h => hFc q h) hFc (fun u t9_ H locs ht hvm hw9 hB9 hz1 hk1 hS => ?_)
        revert u hw9 hB9
        refine fz_p2 ?_
        intro s249 p249 hw9 hB9
        try dsimp only at hw9 hB9
        have hP : va_P (dC, dI) vwCl (WR a k h0 (fT (fT vi 21 s249) 22 p249) vj vF vG) H := fz_P ht hB9.1
        have hD := fz_sd hP (hB9.2.weaken (fun _ q _ h => hFc q.1 h)) rfl
        revert hw9
        refine fz_a2 ?_
        intro f49_0 f49_1
        have f49_0 : (0 < (vi 21).toInt ∧ s249 = (vi 21) ∧ p249 = (vi 22)) ∨ (¬ 0 < (vi 21).toInt ∧ s249 = 4 ∧ p249 = (nI fn)) := f49_0
        refine lv_aload_n hx hb dX12_readOwn_52 rfl (lv_at hl 0 rfl) ?_
        refine va_get (D := (dC, dI)) (ci := 12) (v := .int s249) (C := RX12) (T := TX12) (N := 163) (fs := fM (vS a (fT (fT vi 21 s249) 22 p249) vj)) hx hb hts iwsRX12_readOwn_in12 hown hK hP 0 rfl rfl 21 (by decide) (hts _ hm_r_X12_readOwn_1) (fun _ h9 => h9) rfl dX12_readOwn_53 ?_
        refine lv_if_le (tgt := 60) hx hb dX12_readOwn_56 (by decide) (fun c9 => False.elim (by have t9 : (s249).toInt ≤ 0 := toI_le c9 rfl (by decide); omega)) (fun c_56 => ?_)
        have t_56 : ¬ (s249).toInt ≤ 0 := toI_nle c_56 rfl (by decide)
        refine W.widen (k := 0) (n := 0) (by decide +kernel) (by decide +kernel) ?_
        have e9 : fT (fT (fT (fT (fT (fT (fT (fT vi 33 (vi 33)) 34 (vi 34)) 17 (nI an)) 19 (nI fn)) 20 (vi 20)) 18 (vi 18)) 21 s249) 22 p249 = fT (fT vi 21 s249) 22 p249 := ch_E vi [nI an, nI fn, s249, p249] [(22, 4), (21, 3), (18, 0), (20, 0), (19, 2), (17, 1), (34, 0), (33, 0)] [(22, 4), (21, 3)] [17, 19] ⟨show nI an = vi 17 from (by first | with_reducible rfl | with_reducible assumption | (symm; with_reducible assumption) | rfl | assumption | (symm; assumption) | (subst_vars; rfl)), show nI fn = vi 19 from (by first | with_reducible rfl | with_reducible assumption | (symm; with_reducible assumption) | rfl | assumption | (symm; assumption) | (subst_vars; rfl)), trivial⟩ (by decide +kernel)
        have hP := wr_Pi e9 hP
        have hD := wr_Di e9 hD
        clear e9
        exact W.vret hx hb hr (fun t9_ ht hW => ⟨⟨(an, fn, (vi 20), (vi 18), s249, p249, (vi 33), (vi 34)), rfl, by (try dsimp only); exact ⟨hLx, Nat.le_refl _, by omega, Or.inl ⟨by omega, rfl, rfl⟩⟩, by rw [ht]; exact hP, hD⟩, hS.F ht⟩) hS.2.2 dX12_readOwn_59
    · refine lv_iconst (v := (-1)) hx hb dX12_readOwn_17 (by decide) ?_
      refine lv_icmp_eq (tgt := 34) hx hb dX12_readOwn_18 (by decide) (fun c_18 => ?_) (fun c_18 => ?_)
      · have t_18 : ((kx14 : Nat) : Int) = -1 := toI_eq c_18 (nI_toInt (by omega)) (by decide)
        refine lv_aload_n hx hb dX12_readOwn_34 rfl (lv_at hl 0 rfl) ?_
        refine va_get (D := (dC, dI)) (ci := 12) (v := .int (vi 25)) (C := RX12) (T := TX12) (N := 163) (fs := fM (vS a vi vj)) hx hb hts iwsRX12_readOwn_in12 hown hK hP 0 rfl rfl 25 (by decide) (hts _ hm_r_X12_readOwn_0) (fun _ h9 => h9) rfl dX12_readOwn_35 ?_
        refine lv_topi (fun y7 hy7 => ?_)
        obtain rfl : (nI nm) = y7 := (hy7.trans (hnm)).symm
        refine lv_bipush (v := 40) hx hb dX12_readOwn_38 (by decide) ?_
        refine lv_icmp_ne (tgt := 52) hx hb dX12_readOwn_40 (by decide) (fun c_40 => ?_) (fun c_40 => ?_)
        · have t_40 : ((nm : Nat) : Int) ≠ 40 := toI_ne c_40 (nI_toInt (by omega)) (by decide)
          refine lv_aload_n hx hb dX12_readOwn_52 rfl (lv_at hl 0 rfl) ?_
          refine va_get (D := (dC, dI)) (ci := 12) (v := .int (vi 21)) (C := RX12) (T := TX12) (N := 163) (fs := fM (vS a vi vj)) hx hb hts iwsRX12_readOwn_in12 hown hK hP 0 rfl rfl 21 (by decide) (hts _ hm_r_X12_readOwn_1) (fun _ h9 => h9) rfl dX12_readOwn_53 ?_
          refine lv_if_le (tgt := 60) hx hb dX12_readOwn_56 (by decide) (fun c_56 => ?_) (fun c_56 => ?_)
          · have t_56 : ((vi 21)).toInt ≤ 0 := toI_le c_56 rfl (by decide)
            have hfl := hLx.2.2.1.resolve_left (fun h => by rw [h] at c_5; exact absurd c_5 (by decide))
            refine lv_aload_n hx hb dX12_readOwn_60 rfl (lv_at hl 0 rfl) ?_
            refine lv_aload_n hx hb dX12_readOwn_61 rfl (lv_at hl 0 rfl) ?_
            refine va_get (D := (dC, dI)) (ci := 12) (v := .int (vi 19)) (C := RX12) (T := TX12) (N := 163) (fs := fM (vS a vi vj)) hx hb hts iwsRX12_readOwn_in12 hown hK hP 0 rfl rfl 19 (by decide) (hts _ hm_r_X12_readOwn_2) (fun _ h9 => h9) rfl dX12_readOwn_62 ?_
            refine lv_topi (fun y8 hy8 => ?_)
            obtain rfl : (nI fn) = y8 := (hy8.trans (hfr)).symm
            refine va_put (D := (dC, dI)) (ci := 12) (v := .int (nI fn)) (ty := .int) (C := RX12) (T := TX12) (N := 163) (fs := fM (vS a vi vj)) hx hb hts iwsRX12_readOwn_in12 tyX12 tyX12_ok nmX12 hown hK hP hD hS 0 rfl rfl 33 (by decide) (hts _ hm_r_X12_readOwn_3) (fun _ h9 => h9) rfl (by decide +kernel) rfl rfl (Nat.le_of_ble_eq_true rfl) dX12_readOwn_65 (fun H locs hP hD hS => ?_)
            have hP : va_P (dC, dI) vwCl (WR a k h0 (fT vi 33 (nI fn)) vj vF vG) H := fz_w (WR_i 33 _ rfl) hP
            have hD : va_D A (WR a k h0 (fT vi 33 (nI fn)) vj vF vG) := fz_wD (WR_i 33 _ rfl) hD
            refine lv_aload_n hx hb dX12_readOwn_68 rfl (lv_at hl 0 rfl) ?_
            refine lv_aload_n hx hb dX12_readOwn_69 rfl (lv_at hl 0 rfl) ?_
            refine va_get (D := (dC, dI)) (ci := 12) (v := .int (vi 17)) (C := RX12) (T := TX12) (N := 163) (fs := fM (vS a (fT vi 33 (nI fn)) vj)) hx hb hts iwsRX12_readOwn_in12 hown hK hP 0 rfl rfl 17 (by decide) (hts _ hm_r_X12_readOwn_4) (fun _ h9 => h9) rfl dX12_readOwn_70 ?_
            refine lv_topi (fun y9 hy9 => ?_)
            obtain rfl : (nI an) = y9 := (hy9.trans (ha0)).symm
            refine lv_aload_n hx hb dX12_readOwn_73 rfl (lv_at hl 0 rfl) ?_
            refine va_get (D := (dC, dI)) (ci := 12) (v := .int (vi 19)) (C := RX12) (T := TX12) (N := 163) (fs := fM (vS a (fT vi 33 (nI fn)) vj)) hx hb hts iwsRX12_readOwn_in12 hown hK hP 0 rfl rfl 19 (by decide) (hts _ hm_r_X12_readOwn_2) (fun _ h9 => h9) rfl dX12_readOwn_74 ?_
            refine lv_topi (fun y10 hy10 => ?_)
            obtain rfl : (nI fn) = y10 := (hy10.trans (hfr)).symm
            refine lv_isub hx hb dX12_readOwn_77 ?_
            refine lv_topi (fun y11 hy11 => ?_)
            obtain rfl : (nI (an - fn)) = y11 := (hy11.trans (pk_sub (a := an) (b := fn) (by omega))).symm
            refine va_put (D := (dC, dI)) (ci := 12) (v := .int (nI (an - fn))) (ty := .int) (C := RX12) (T := TX12) (N := 163) (fs := fM (vS a (fT vi 33 (nI fn)) vj)) hx hb hts iwsRX12_readOwn_in12 tyX12 tyX12_ok nmX12 hown hK hP hD hS 0 rfl rfl 34 (by decide) (hts _ hm_r_X12_readOwn_5) (fun _ h9 => h9) rfl (by decide +kernel) rfl rfl (Nat.le_of_ble_eq_true rfl) dX12_readOwn_78 (fun H locs hP hD hS => ?_)
            have hP : va_P (dC, dI) vwCl (WR a k h0 (fT (fT vi 33 (nI fn)) 34 (nI (an - fn))) vj vF vG) H := fz_w (WR_i 34 _ rfl) hP
            have hD : va_D A (WR a k h0 (fT (fT vi 33 (nI fn)) 34 (nI (an - fn))) vj vF vG) := fz_wD (WR_i 34 _ rfl) hD
            refine lv_aload_n hx hb dX12_readOwn_81 rfl (lv_at hl 0 rfl) ?_
            have hFc := allFree hD hS hA
            refine va_callv (va_runV (As := []) (rest := []) ⟨hx, hb, hml, hown, hts⟩ (r_X12_next l dC dI a k h0 (fT (fT vi 33 (nI fn)) 34 (nI (an - fn))) vj vF vG tp an hTp (by first | with_reducible assumption | decide | omega | rfl | assumption) ha0 (by first | with_reducible assumption | decide | omega | rfl | assumption) H.size) (cwV 0 hts gwsRX12_readOwn_1 rfl rfl rfl hd_yX12_next_RX12 (by decide +kernel)) (fz_preE (va_recv hK hP (ci := 12) (q0 := 0) rfl rfl) hP hK hD (fun a U g mk qE => qE.same rfl) (fun U hU9 hW => by rw [hU9]; exact (((hE : StrA A s s.heap).kept hS.2.1).narrow (fun q h => hFc q h)).warm hW)) rfl rfl hl.1 rfl (lv_room (Nat.le_of_ble_eq_true rfl)) dX12_readOwn_82 (by decide +kernel)) hS (fun q _ h => hFc q h) hFc (fun u t9_ H locs ht hvm hw9 hB9 hz1 hk1 hS => ?_)
            revert u hw9 hB9
            refine fz_p4 ?_
            intro a282_1 f282_1 sg82_1 wd82_1 hw9 hB9
            try dsimp only at hw9 hB9
            have hP : va_P (dC, dI) vwCl (WR a k h0 (fT (fT (fT (fT (fT (fT vi 33 (nI fn)) 34 (nI (an - fn))) 17 (nI a282_1)) 19 (nI f282_1)) 20 sg82_1) 18 wd82_1) vj vF vG) H := fz_P ht hB9.1
            have hD := fz_sd hP (hB9.2.weaken (fun _ q _ h => hFc q.1 h)) rfl
            revert hw9
            refine fz_a2 ?_
            intro f82_1_0 f82_1_1
            refine W.widen (k := 0) (n := 0) (by decide +kernel) (by decide +kernel) ?_
            have e9 : fT (fT (fT (fT (fT (fT (fT (fT vi 33 (nI fn)) 34 (nI (an - fn))) 17 (nI a282_1)) 19 (nI f282_1)) 20 sg82_1) 18 wd82_1) 21 (vi 21)) 22 (vi 22) = fT (fT (fT (fT (fT (fT vi 33 (nI fn)) 34 (nI (an - fn))) 17 (nI a282_1)) 19 (nI f282_1)) 20 sg82_1) 18 wd82_1 := ch_E vi [nI fn, nI (an - fn), nI a282_1, nI f282_1, sg82_1, wd82_1] [(22, 0), (21, 0), (18, 6), (20, 5), (19, 4), (17, 3), (34, 2), (33, 1)] [(18, 6), (20, 5), (19, 4), (17, 3), (34, 2), (33, 1)] [] trivial (by decide +kernel)
            have hP := wr_Pi e9 hP
            have hD := wr_Di e9 hD
            clear e9
            exact W.vret hx hb hr (fun t9_ ht hW => ⟨⟨(a282_1, f282_1, sg82_1, wd82_1, (vi 21), (vi 22), (nI fn), (nI (an - fn))), rfl, by (try dsimp only); exact ⟨f82_1_0, by omega, hst0, Or.inr ⟨i32z (by omega), by omega, by omega, fn, an - fn, rfl, rfl, by omega⟩⟩, by rw [ht]; exact hP, hD⟩, hS.F ht⟩) hS.2.2 dX12_readOwn_85
          · have t_56 : ¬ ((vi 21)).toInt ≤ 0 := toI_nle c_56 rfl (by decide)
            refine W.widen (k := 0) (n := 0) (by decide +kernel) (by decide +kernel) ?_
            have e9 : fT (fT (fT (fT (fT (fT (fT (fT vi 33 (vi 33)) 34 (vi 34)) 17 (nI an)) 19 (nI fn)) 20 (vi 20)) 18 (vi 18)) 21 (vi 21)) 22 (vi 22) = vi := ch_E vi [nI an, nI fn] [(22, 0), (21, 0), (18, 0), (20, 0), (19, 2), (17, 1), (34, 0), (33, 0)] [] [17, 19] ⟨show nI an = vi 17 from (by first | with_reducible rfl | with_reducible assumption | (symm; with_reducible assumption) | rfl | assumption | (symm; assumption) | (subst_vars; rfl)), show nI fn = vi 19 from (by first | with_reducible rfl | with_reducible assumption | (symm; with_reducible assumption) | rfl | assumption | (symm; assumption) | (subst_vars; rfl)), trivial⟩ (by decide +kernel)
            have hP := wr_Pi e9 hP
            have hD := wr_Di e9 hD
            clear e9
            exact W.vret hx hb hr (fun t9_ ht hW => ⟨⟨(an, fn, (vi 20), (vi 18), (vi 21), (vi 22), (vi 33), (vi 34)), rfl, by (try dsimp only); exact ⟨hLx, Nat.le_refl _, by omega, Or.inl ⟨by omega, rfl, rfl⟩⟩, by rw [ht]; exact hP, hD⟩, hS.F ht⟩) hS.2.2 dX12_readOwn_59
        · have t_40 : ((nm : Nat) : Int) = 40 := toI_nne c_40 (nI_toInt (by omega)) (by decide)
          refine lv_aload_n hx hb dX12_readOwn_43 rfl (lv_at hl 0 rfl) ?_
          refine lv_iconst (v := 4) hx hb dX12_readOwn_44 (by decide) ?_
          refine lv_aload_n hx hb dX12_readOwn_45 rfl (lv_at hl 0 rfl) ?_
          refine va_get (D := (dC, dI)) (ci := 12) (v := .int (vi 19)) (C := RX12) (T := TX12) (N := 163) (fs := fM (vS a vi vj)) hx hb hts iwsRX12_readOwn_in12 hown hK hP 0 rfl rfl 19 (by decide) (hts _ hm_r_X12_readOwn_2) (fun _ h9 => h9) rfl dX12_readOwn_46 ?_
          refine lv_topi (fun y12 hy12 => ?_)
          obtain rfl : (nI fn) = y12 := (hy12.trans (hfr)).symm
          have hFc := allFree hD hS hA
          refine va_callv (va_runV (As := [.int 4, .int (nI fn)]) (rest := []) ⟨hx, hb, hml, hown, hts⟩ (r_X12_faultAt l dC dI a k h0 vi vj vF vG 4 (nI fn) (by first | with_reducible assumption | decide | omega | rfl | assumption) H.size) (cwV 2 hts gwsRX12_readOwn_2 rfl rfl rfl hd_yX12_faultAt_RX12 (by decide +kernel)) (fz_pre (va_recv hK hP (ci := 12) (q0 := 0) rfl rfl) hP hK hD) rfl rfl hl.1 rfl (lv_room (Nat.le_of_ble_eq_true rfl)) dX12_readOwn_49 (by decide +kernel)) hS (fun q _ h => hFc q h) hFc (fun u t9_ H locs ht hvm hw9 hB9 hz1 hk1 hS => ?_)
          revert u hw9 hB9
          refine fz_p2 ?_
          intro s249_1 p249_1 hw9 hB9
          try dsimp only at hw9 hB9
          have hP : va_P (dC, dI) vwCl (WR a k h0 (fT (fT vi 21 s249_1) 22 p249_1) vj vF vG) H := fz_P ht hB9.1
          have hD := fz_sd hP (hB9.2.weaken (fun _ q _ h => hFc q.1 h)) rfl
          revert hw9
          refine fz_a2 ?_
          intro f49_1_0 f49_1_1
          have f49_1_0 : (0 < (vi 21).toInt ∧ s249_1 = (vi 21) ∧ p249_1 = (vi 22)) ∨ (¬ 0 < (vi 21).toInt ∧ s249_1 = 4 ∧ p249_1 = (nI fn)) := f49_1_0
          refine lv_aload_n hx hb dX12_readOwn_52 rfl (lv_at hl 0 rfl) ?_
          refine va_get (D := (dC, dI)) (ci := 12) (v := .int s249_1) (C := RX12) (T := TX12) (N := 163) (fs := fM (vS a (fT (fT vi 21 s249_1) 22 p249_1) vj)) hx hb hts iwsRX12_readOwn_in12 hown hK hP 0 rfl rfl 21 (by decide) (hts _ hm_r_X12_readOwn_1) (fun _ h9 => h9) rfl dX12_readOwn_53 ?_
          refine lv_if_le (tgt := 60) hx hb dX12_readOwn_56 (by decide) (fun c9 => False.elim (by have t9 : (s249_1).toInt ≤ 0 := toI_le c9 rfl (by decide); omega)) (fun c_56 => ?_)
          have t_56 : ¬ (s249_1).toInt ≤ 0 := toI_nle c_56 rfl (by decide)
          refine W.widen (k := 0) (n := 0) (by decide +kernel) (by decide +kernel) ?_
          have e9 : fT (fT (fT (fT (fT (fT (fT (fT vi 33 (vi 33)) 34 (vi 34)) 17 (nI an)) 19 (nI fn)) 20 (vi 20)) 18 (vi 18)) 21 s249_1) 22 p249_1 = fT (fT vi 21 s249_1) 22 p249_1 := ch_E vi [nI an, nI fn, s249_1, p249_1] [(22, 4), (21, 3), (18, 0), (20, 0), (19, 2), (17, 1), (34, 0), (33, 0)] [(22, 4), (21, 3)] [17, 19] ⟨show nI an = vi 17 from (by first | with_reducible rfl | with_reducible assumption | (symm; with_reducible assumption) | rfl | assumption | (symm; assumption) | (subst_vars; rfl)), show nI fn = vi 19 from (by first | with_reducible rfl | with_reducible assumption | (symm; with_reducible assumption) | rfl | assumption | (symm; assumption) | (subst_vars; rfl)), trivial⟩ (by decide +kernel)
          have hP := wr_Pi e9 hP
          have hD := wr_Di e9 hD
          clear e9
          exact W.vret hx hb hr (fun t9_ ht hW => ⟨⟨(an, fn, (vi 20), (vi 18), s249_1, p249_1, (vi 33), (vi 34)), rfl, by (try dsimp only); exact ⟨hLx, Nat.le_refl _, by omega, Or.inl ⟨by omega, rfl, rfl⟩⟩, by rw [ht]; exact hP, hD⟩, hS.F ht⟩) hS.2.2 dX12_readOwn_59
      · have t_18 : ¬ ((kx14 : Nat) : Int) = -1 := toI_neq c_18 (nI_toInt (by omega)) (by decide)
        refine lv_aload_n hx hb dX12_readOwn_21 rfl (lv_at hl 0 rfl) ?_
        refine lv_bipush (v := 10) hx hb dX12_readOwn_22 (by decide) ?_
        refine lv_aload_n hx hb dX12_readOwn_24 rfl (lv_at hl 0 rfl) ?_
        refine va_get (D := (dC, dI)) (ci := 12) (v := .int (vi 19)) (C := RX12) (T := TX12) (N := 163) (fs := fM (vS a vi vj)) hx hb hts iwsRX12_readOwn_in12 hown hK hP 0 rfl rfl 19 (by decide) (hts _ hm_r_X12_readOwn_2) (fun _ h9 => h9) rfl dX12_readOwn_25 ?_
        refine lv_topi (fun y13 hy13 => ?_)
        obtain rfl : (nI fn) = y13 := (hy13.trans (hfr)).symm
        have hFc := allFree hD hS hA
        refine va_callv (va_runV (As := [.int 10, .int (nI fn)]) (rest := []) ⟨hx, hb, hml, hown, hts⟩ (r_X12_faultAt l dC dI a k h0 vi vj vF vG 10 (nI fn) (by first | with_reducible assumption | decide | omega | rfl | assumption) H.size) (cwV 2 hts gwsRX12_readOwn_2 rfl rfl rfl hd_yX12_faultAt_RX12 (by decide +kernel)) (fz_pre (va_recv hK hP (ci := 12) (q0 := 0) rfl rfl) hP hK hD) rfl rfl hl.1 rfl (lv_room (Nat.le_of_ble_eq_true rfl)) dX12_readOwn_28 (by decide +kernel)) hS (fun q _ h => hFc q h) hFc (fun u t9_ H locs ht hvm hw9 hB9 hz1 hk1 hS => ?_)
        revert u hw9 hB9
        refine fz_p2 ?_
        intro s228 p228 hw9 hB9
        try dsimp only at hw9 hB9
        have hP : va_P (dC, dI) vwCl (WR a k h0 (fT (fT vi 21 s228) 22 p228) vj vF vG) H := fz_P ht hB9.1
        have hD := fz_sd hP (hB9.2.weaken (fun _ q _ h => hFc q.1 h)) rfl
        revert hw9
        refine fz_a2 ?_
        intro f28_0 f28_1
        have f28_0 : (0 < (vi 21).toInt ∧ s228 = (vi 21) ∧ p228 = (vi 22)) ∨ (¬ 0 < (vi 21).toInt ∧ s228 = 10 ∧ p228 = (nI fn)) := f28_0
        refine lv_goto (tgt := 52) hx hb dX12_readOwn_31 (by decide) ?_
        refine lv_aload_n hx hb dX12_readOwn_52 rfl (lv_at hl 0 rfl) ?_
        refine va_get (D := (dC, dI)) (ci := 12) (v := .int s228) (C := RX12) (T := TX12) (N := 163) (fs := fM (vS a (fT (fT vi 21 s228) 22 p228) vj)) hx hb hts iwsRX12_readOwn_in12 hown hK hP 0 rfl rfl 21 (by decide) (hts _ hm_r_X12_readOwn_1) (fun _ h9 => h9) rfl dX12_readOwn_53 ?_
        refine lv_if_le (tgt := 60) hx hb dX12_readOwn_56 (by decide) (fun c9 => False.elim (by have t9 : (s228).toInt ≤ 0 := toI_le c9 rfl (by decide); omega)) (fun c_56 => ?_)
        have t_56 : ¬ (s228).toInt ≤ 0 := toI_nle c_56 rfl (by decide)
        refine W.widen (k := 0) (n := 0) (by decide +kernel) (by decide +kernel) ?_
        have e9 : fT (fT (fT (fT (fT (fT (fT (fT vi 33 (vi 33)) 34 (vi 34)) 17 (nI an)) 19 (nI fn)) 20 (vi 20)) 18 (vi 18)) 21 s228) 22 p228 = fT (fT vi 21 s228) 22 p228 := ch_E vi [nI an, nI fn, s228, p228] [(22, 4), (21, 3), (18, 0), (20, 0), (19, 2), (17, 1), (34, 0), (33, 0)] [(22, 4), (21, 3)] [17, 19] ⟨show nI an = vi 17 from (by first | with_reducible rfl | with_reducible assumption | (symm; with_reducible assumption) | rfl | assumption | (symm; assumption) | (subst_vars; rfl)), show nI fn = vi 19 from (by first | with_reducible rfl | with_reducible assumption | (symm; with_reducible assumption) | rfl | assumption | (symm; assumption) | (subst_vars; rfl)), trivial⟩ (by decide +kernel)
        have hP := wr_Pi e9 hP
        have hD := wr_Di e9 hD
        clear e9
        exact W.vret hx hb hr (fun t9_ ht hW => ⟨⟨(an, fn, (vi 20), (vi 18), s228, p228, (vi 33), (vi 34)), rfl, by (try dsimp only); exact ⟨hLx, Nat.le_refl _, by omega, Or.inl ⟨by omega, rfl, rfl⟩⟩, by rw [ht]; exact hP, hD⟩, hS.F ht⟩) hS.2.2 dX12_readOwn_59
  · have t_5 : ¬ ((vi 18)).toInt = 1 := toI_neq c_5 rfl (by decide)
    refine lv_aload_n hx hb dX12_readOwn_8 rfl (lv_at hl 0 rfl) ?_
    have hFc := allFree hD hS hA
    refine va_callv (va_runV (As := []) (rest := []) ⟨hx, hb, hml, hown, hts⟩ (r_X12_wrong l dC dI a k h0 vi vj vF vG s.heap.size) (cwV 0 hts gwsRX12_readOwn_3 rfl rfl rfl hd_yX12_wrong_RX12 (by decide +kernel)) (fz_pre (va_recv hK hP (ci := 12) (q0 := 0) rfl rfl) hP hK hD) rfl rfl hl.1 rfl (lv_room (Nat.le_of_ble_eq_true rfl)) dX12_readOwn_9 (by decide +kernel)) hS (fun q _ h => hFc q h) hFc (fun u t9_ H locs ht hvm hw9 hB9 hz1 hk1 hS => ?_)
    revert u hw9 hB9
    refine fz_p2 ?_
    intro s29 p29 hw9 hB9
    try dsimp only at hw9 hB9
    have hP : va_P (dC, dI) vwCl (WR a k h0 (fT (fT vi 21 s29) 22 p29) vj vF vG) H := fz_P ht hB9.1
    have hD := fz_sd hP (hB9.2.weaken (fun _ q _ h => hFc q.1 h)) rfl
    revert hw9
    refine fz_a2 ?_
    intro f9_0 f9_1
    have f9_0 : (0 < (vi 21).toInt ∧ s29 = (vi 21) ∧ p29 = (vi 22)) ∨ (¬ 0 < (vi 21).toInt ∧ (s29 = 1 ∨ s29 = 2) ∧ p29 = (vi 19)) := f9_0
    refine W.widen (k := 0) (n := 0) (by decide +kernel) (by decide +kernel) ?_
    have e9 : fT (fT (fT (fT (fT (fT (fT (fT vi 33 (vi 33)) 34 (vi 34)) 17 (nI an)) 19 (nI fn)) 20 (vi 20)) 18 (vi 18)) 21 s29) 22 p29 = fT (fT vi 21 s29) 22 p29 := ch_E vi [nI an, nI fn, s29, p29] [(22, 4), (21, 3), (18, 0), (20, 0), (19, 2), (17, 1), (34, 0), (33, 0)] [(22, 4), (21, 3)] [17, 19] ⟨show nI an = vi 17 from (by first | with_reducible rfl | with_reducible assumption | (symm; with_reducible assumption) | rfl | assumption | (symm; assumption) | (subst_vars; rfl)), show nI fn = vi 19 from (by first | with_reducible rfl | with_reducible assumption | (symm; with_reducible assumption) | rfl | assumption | (symm; assumption) | (subst_vars; rfl)), trivial⟩ (by decide +kernel)
    have hP := wr_Pi e9 hP
    have hD := wr_Di e9 hD
    clear e9
    exact W.vret hx hb hr (fun t9_ ht hW => ⟨⟨(an, fn, (vi 20), (vi 18), s29, p29, (vi 33), (vi 34)), rfl, by (try dsimp only); exact ⟨hLx, Nat.le_refl _, by omega, Or.inl ⟨f9_1, rfl, rfl⟩⟩, by rw [ht]; exact hP, hD⟩, hS.F ht⟩) hS.2.2 dX12_readOwn_12
theorem dX12_placeMembers_0 : decode cX12_placeMembers 0 = .ok (.aload_n 0, 1) := dk_42 (by decide +kernel)
theorem dX12_placeMembers_1 : decode cX12_placeMembers 1 = .ok (.getfield 705, 3) := dk_180 (by decide +kernel)
theorem dX12_placeMembers_4 : decode cX12_placeMembers 4 = .ok (.ifCond .ne 7, 3) := dk_154 (by decide +kernel)
theorem dX12_placeMembers_7 : decode cX12_placeMembers 7 = .ok (.iconst 1, 1) := dk_4 (by decide +kernel)
theorem dX12_placeMembers_8 : decode cX12_placeMembers 8 = .ok (.goto 42, 3) := dk_167 (by decide +kernel)
theorem dX12_placeMembers_11 : decode cX12_placeMembers 11 = .ok (.aload_n 0, 1) := dk_42 (by decide +kernel)
theorem dX12_placeMembers_12 : decode cX12_placeMembers 12 = .ok (.getfield 705, 3) := dk_180 (by decide +kernel)
theorem dX12_placeMembers_15 : decode cX12_placeMembers 15 = .ok (.iconst 1, 1) := dk_4 (by decide +kernel)
theorem dX12_placeMembers_16 : decode cX12_placeMembers 16 = .ok (.if_icmp .ne 15, 3) := dk_160 (by decide +kernel)
theorem dX12_placeMembers_19 : decode cX12_placeMembers 19 = .ok (.aload_n 0, 1) := dk_42 (by decide +kernel)
theorem dX12_placeMembers_20 : decode cX12_placeMembers 20 = .ok (.getfield 74, 3) := dk_180 (by decide +kernel)
theorem dX12_placeMembers_23 : decode cX12_placeMembers 23 = .ok (.aload_n 0, 1) := dk_42 (by decide +kernel)
theorem dX12_placeMembers_24 : decode cX12_placeMembers 24 = .ok (.getfield 708, 3) := dk_180 (by decide +kernel)
theorem dX12_placeMembers_27 : decode cX12_placeMembers 27 = .ok (.iaload, 1) := dk_46 (by decide +kernel)
theorem dX12_placeMembers_28 : decode cX12_placeMembers 28 = .ok (.goto 22, 3) := dk_167 (by decide +kernel)
theorem dX12_placeMembers_31 : decode cX12_placeMembers 31 = .ok (.aload_n 0, 1) := dk_42 (by decide +kernel)
theorem dX12_placeMembers_32 : decode cX12_placeMembers 32 = .ok (.getfield 74, 3) := dk_180 (by decide +kernel)
theorem dX12_placeMembers_35 : decode cX12_placeMembers 35 = .ok (.aload_n 0, 1) := dk_42 (by decide +kernel)
theorem dX12_placeMembers_36 : decode cX12_placeMembers 36 = .ok (.getfield 708, 3) := dk_180 (by decide +kernel)
theorem dX12_placeMembers_39 : decode cX12_placeMembers 39 = .ok (.iaload, 1) := dk_46 (by decide +kernel)
theorem dX12_placeMembers_40 : decode cX12_placeMembers 40 = .ok (.aload_n 0, 1) := dk_42 (by decide +kernel)
theorem dX12_placeMembers_41 : decode cX12_placeMembers 41 = .ok (.getfield 74, 3) := dk_180 (by decide +kernel)
theorem dX12_placeMembers_44 : decode cX12_placeMembers 44 = .ok (.aload_n 0, 1) := dk_42 (by decide +kernel)
theorem dX12_placeMembers_45 : decode cX12_placeMembers 45 = .ok (.getfield 711, 3) := dk_180 (by decide +kernel)
theorem dX12_placeMembers_48 : decode cX12_placeMembers 48 = .ok (.iaload, 1) := dk_46 (by decide +kernel)
theorem dX12_placeMembers_49 : decode cX12_placeMembers 49 = .ok (.imul, 1) := dk_104 (by decide +kernel)
theorem dX12_placeMembers_50 : decode cX12_placeMembers 50 = .ok (.ireturn, 1) := dk_172 (by decide +kernel)
def wsRX12_placeMembers : List Cond := .code yX12_placeMembers cX12_placeMembers 1 (some .int) :: ([.fieldLink RX12 705 "OptimaWorksModel" "places" "I", .fieldLink RX12 74 "OptimaWorksModel" "setMany" "[I", .fieldLink RX12 708 "OptimaWorksModel" "placeOne" "I", .fieldLink RX12 711 "OptimaWorksModel" "placeTwo" "I"] ++ wsX120)
theorem iwsRX12_placeMembers_in12 : ∀ w ∈ wsX120, w ∈ wsRX12_placeMembers := fun _ h => List.mem_cons_of_mem _ (List.mem_append_right _ h)
theorem gdwsRX12_placeMembers : wsRX12_placeMembers.all goodWord = true := gdC rfl (gdA (by decide +kernel : ([.fieldLink RX12 705 "OptimaWorksModel" "places" "I", .fieldLink RX12 74 "OptimaWorksModel" "setMany" "[I", .fieldLink RX12 708 "OptimaWorksModel" "placeOne" "I", .fieldLink RX12 711 "OptimaWorksModel" "placeTwo" "I"] : List Cond).all goodWord = true) gdwsX120)
theorem hm_r_X12_placeMembers_0 : (.fieldLink RX12 705 "OptimaWorksModel" "places" "I" : Cond) ∈ wsRX12_placeMembers := by decide +kernel
theorem hm_r_X12_placeMembers_1 : (.fieldLink RX12 74 "OptimaWorksModel" "setMany" "[I" : Cond) ∈ wsRX12_placeMembers := by decide +kernel
theorem hm_r_X12_placeMembers_2 : (.fieldLink RX12 708 "OptimaWorksModel" "placeOne" "I" : Cond) ∈ wsRX12_placeMembers := by decide +kernel
set_option maxHeartbeats 4000000 in
set_option maxRecDepth 100000 in
/-- placeMembers() -/
theorem r_X12_placeMembers (l : Launch) (dC : Nat → ClassId) (dI : Nat → Nat → Nat) (a : Nat → Nat) (k : Nat → ClassId) (h0 : Nat) (vi : Nat → Int32) (vj : Nat → Int64) (vF : Nat → Nat → Int32) (vG : Nat → Nat → Int64) (pl : Nat) (o1 : Nat) (o2 : Nat) (se : Nat) (hse44 : se ≤ 44) (hSe : SeO (vF 16) (vF 17) se) (hps : vi 110 = nI pl) (hpo : vi 111 = nI o1) (hpt : vi 112 = nI o2) (hpl : pl ≤ 2 ∧ (1 ≤ pl → o1 < se) ∧ (pl = 2 → o2 < se)) (sz : Nat) : Met l yX12_placeMembers wsRX12_placeMembers ({ frames := 0, cells := 0, slots := 0, locals := 0 }) (va_Pc [.ref h0] (fun U => U.heap.size = sz ∧ va_P (dC, dI) vwCl (WR a k h0 vi vj vF vG) U.heap ∧ va_K (dC, dI) vwCl (tX12 k) U ∧ va_D (fun _ => True) (WR a k h0 vi vj vF vG))) (va_Qi (fun (r : Int32) (u : Nat) => r = (nI u) ∧ (1 ≤ u ∧ u ≤ 144) ∧ (MemP (vF 17) pl o1 o2 u)) (fun (u : Nat) t => va_P (dC, dI) vwCl (WR a k h0 vi vj vF vG) t.heap ∧ va_D (va_A (WR a k h0 vi vj vF vG) sz) (WR a k h0 vi vj vF vG)) (va_A (WR a k h0 vi vj vF vG) sz)) 0 0 (va_A (WR a k h0 vi vj vF vG) sz) := by
  refine Met.ofW (cc := cX12_placeMembers) (maxL := 1) (ret := (some .int)) (by decide) rfl ?_
  intro p e s m args below meth c s₁ B hml hv
  obtain ⟨rfl, hsz, hP, hK, hD0⟩ := hv
  have hx := B.exec
  have hb := B.bytes
  have hr := B.returns
  have hts := atoms_spec (ws := wsRX12_placeMembers) B.pre
  have hown : s.vm.findClass RX12 = some m.cls := findClass_of_methodNamed B.named
  have hlocks := B.notSynchronized
  subst hsz
  have hD := hD0.self (sz := s.heap.size)
  generalize hAe : va_A (WR a k h0 vi vj vF vG) s.heap.size = A at hD ⊢
  have hA : ∀ q : Nat, s.heap.size ≤ q → A q := fun q h => by rw [← hAe]; exact Or.inr h
  have hS : va_S A s.heap s.heap [] := va_S.rf
  have hl := lv_entry ([.ref h0]) (n := 1) (Nat.le_of_ble_eq_true rfl)
  rw [lg_entry_eq]
  generalize (lg_sl ([.ref h0]) ++ List.replicate (1 - (lg_sl ([.ref h0])).length) Slot.unset).toArray = ls at hl ⊢
  have hl : lv_has ls 1 [(0, .ref h0)] := hl
  refine lv_aload_n hx hb dX12_placeMembers_0 rfl (lv_at hl 0 rfl) ?_
  refine va_get (D := (dC, dI)) (ci := 12) (v := .int (vi 110)) (C := RX12) (T := TX12) (N := 163) (fs := fM (vS a vi vj)) hx hb hts iwsRX12_placeMembers_in12 hown hK hP 0 rfl rfl 110 (by decide) (hts _ hm_r_X12_placeMembers_0) (fun _ h9 => h9) rfl dX12_placeMembers_1 ?_
  refine lv_topi (fun y1 hy1 => ?_)
  obtain rfl : (nI pl) = y1 := (hy1.trans (hps)).symm
  refine lv_if_ne (tgt := 11) hx hb dX12_placeMembers_4 (by decide) (fun c_4 => ?_) (fun c_4 => ?_)
  · have t_4 : ((pl : Nat) : Int) ≠ 0 := toI_ne c_4 (nI_toInt (by omega)) (by decide)
    refine lv_aload_n hx hb dX12_placeMembers_11 rfl (lv_at hl 0 rfl) ?_
    refine va_get (D := (dC, dI)) (ci := 12) (v := .int (vi 110)) (C := RX12) (T := TX12) (N := 163) (fs := fM (vS a vi vj)) hx hb hts iwsRX12_placeMembers_in12 hown hK hP 0 rfl rfl 110 (by decide) (hts _ hm_r_X12_placeMembers_0) (fun _ h9 => h9) rfl dX12_placeMembers_12 ?_
    refine lv_topi (fun y2 hy2 => ?_)
    obtain rfl : (nI pl) = y2 := (hy2.trans (hps)).symm
    refine lv_iconst (v := 1) hx hb dX12_placeMembers_15 (by decide) ?_
    refine lv_icmp_ne (tgt := 31) hx hb dX12_placeMembers_16 (by decide) (fun c_16 => ?_) (fun c_16 => ?_)
    · have t_16 : ((pl : Nat) : Int) ≠ 1 := toI_ne c_16 (nI_toInt (by omega)) (by decide)
      obtain ⟨⟨m1, hm1, hm2, em1⟩, _⟩ := hSe o1 (by omega)
      obtain ⟨⟨m2, hn1, hn2, em2⟩, _⟩ := hSe o2 (by omega)
      refine lv_aload_n hx hb dX12_placeMembers_31 rfl (lv_at hl 0 rfl) ?_
      refine va_get (D := (dC, dI)) (ci := 12) (v := .ref (a 17)) (C := RX12) (T := TX12) (N := 163) (fs := fM (vS a vi vj)) hx hb hts iwsRX12_placeMembers_in12 hown hK hP 0 rfl rfl 40 (by decide) (hts _ hm_r_X12_placeMembers_1) (fun _ h9 => h9) rfl dX12_placeMembers_32 ?_
      refine lv_aload_n hx hb dX12_placeMembers_35 rfl (lv_at hl 0 rfl) ?_
      refine va_get (D := (dC, dI)) (ci := 12) (v := .int (vi 111)) (C := RX12) (T := TX12) (N := 163) (fs := fM (vS a vi vj)) hx hb hts iwsRX12_placeMembers_in12 hown hK hP 0 rfl rfl 111 (by decide) (hts _ hm_r_X12_placeMembers_2) (fun _ h9 => h9) rfl dX12_placeMembers_36 ?_
      refine lv_topi (fun y3 hy3 => ?_)
      obtain rfl : (nI o1) = y3 := (hy3.trans (hpo)).symm
      refine va_iald (cA := k 17) (n := 44) (f := (vF 17)) hx hb hK hP 18 17 (WR_get 17 (by decide)) (TR_get 17 (by decide)) (vp_in_nI (show o1 < 44 by omega) (by omega)) dX12_placeMembers_39 ?_
      refine lv_topi (fun y4 hy4 => ?_)
      obtain rfl : ((vF 17) o1) = y4 := (hy4.trans (by rw [nI_clamp (by omega)])).symm
      refine lv_topi (fun y5 hy5 => ?_)
      obtain rfl : (nI m1) = y5 := (hy5.trans (em1)).symm
      refine lv_aload_n hx hb dX12_placeMembers_40 rfl (lv_at hl 0 rfl) ?_
      refine va_get (D := (dC, dI)) (ci := 12) (v := .ref (a 17)) (C := RX12) (T := TX12) (N := 163) (fs := fM (vS a vi vj)) hx hb hts iwsRX12_placeMembers_in12 hown hK hP 0 rfl rfl 40 (by decide) (hts _ hm_r_X12_placeMembers_1) (fun _ h9 => h9) rfl dX12_placeMembers_41 ?_
      refine lv_aload_n hx hb dX12_placeMembers_44 rfl (lv_at hl 0 rfl) ?_
      refine va_get (D := (dC, dI)) (ci := 12) (v := .int (vi 112)) (C := RX12) (T := TX12) (N := 163) (fs := fM (vS a vi vj)) hx hb hts iwsRX12_placeMembers_in12 hown hK hP 0 rfl rfl 112 (by decide) (hts (.fieldLink RX12 711 "OptimaWorksModel" "placeTwo" "I") (by decide +kernel)) (fun _ h9 => h9) rfl dX12_placeMembers_45 ?_
      refine lv_topi (fun y6 hy6 => ?_)
      obtain rfl : (nI o2) = y6 := (hy6.trans (hpt)).symm
      refine va_iald (cA := k 17) (n := 44) (f := (vF 17)) hx hb hK hP 18 17 (WR_get 17 (by decide)) (TR_get 17 (by decide)) (vp_in_nI (show o2 < 44 by omega) (by omega)) dX12_placeMembers_48 ?_
      refine lv_topi (fun y7 hy7 => ?_)
      obtain rfl : ((vF 17) o2) = y7 := (hy7.trans (by rw [nI_clamp (by omega)])).symm
      refine lv_topi (fun y8 hy8 => ?_)
      obtain rfl : (nI m2) = y8 := (hy8.trans (em2)).symm
      refine lv_imul hx hb dX12_placeMembers_49 ?_
      refine lv_topi (fun y9 hy9 => ?_)
      obtain rfl : (nI (m1 * m2)) = y9 := (hy9.trans (pk_mul m1 m2)).symm
      refine W.widen (k := 0) (n := 0) (by decide +kernel) (by decide +kernel) ?_
      exact W.iret (v := (nI (m1 * m2))) hx hb hr (fun t9_ ht hW => ⟨⟨(nI (m1 * m2)), (m1 * m2), rfl, by (try dsimp only); exact ⟨rfl, by (have h1 : 1 * 1 ≤ m1 * m2 := Nat.mul_le_mul hm1 hn1); (have h2 : m1 * m2 ≤ 12 * 12 := Nat.mul_le_mul hm2 hn2); omega, MemP.m2 (by omega) em1 hm2 em2 hn2⟩, by rw [ht]; exact hP, hD⟩, hS.F ht⟩) hS.2.2 dX12_placeMembers_50
    · have t_16 : ((pl : Nat) : Int) = 1 := toI_nne c_16 (nI_toInt (by omega)) (by decide)
      obtain ⟨⟨m1, hm1, hm2, em1⟩, _⟩ := hSe o1 (by omega)
      refine lv_aload_n hx hb dX12_placeMembers_19 rfl (lv_at hl 0 rfl) ?_
      refine va_get (D := (dC, dI)) (ci := 12) (v := .ref (a 17)) (C := RX12) (T := TX12) (N := 163) (fs := fM (vS a vi vj)) hx hb hts iwsRX12_placeMembers_in12 hown hK hP 0 rfl rfl 40 (by decide) (hts _ hm_r_X12_placeMembers_1) (fun _ h9 => h9) rfl dX12_placeMembers_20 ?_
      refine lv_aload_n hx hb dX12_placeMembers_23 rfl (lv_at hl 0 rfl) ?_
      refine va_get (D := (dC, dI)) (ci := 12) (v := .int (vi 111)) (C := RX12) (T := TX12) (N := 163) (fs := fM (vS a vi vj)) hx hb hts iwsRX12_placeMembers_in12 hown hK hP 0 rfl rfl 111 (by decide) (hts _ hm_r_X12_placeMembers_2) (fun _ h9 => h9) rfl dX12_placeMembers_24 ?_
      refine lv_topi (fun y10 hy10 => ?_)
      obtain rfl : (nI o1) = y10 := (hy10.trans (hpo)).symm
      refine va_iald (cA := k 17) (n := 44) (f := (vF 17)) hx hb hK hP 18 17 (WR_get 17 (by decide)) (TR_get 17 (by decide)) (vp_in_nI (show o1 < 44 by omega) (by omega)) dX12_placeMembers_27 ?_
      refine lv_topi (fun y11 hy11 => ?_)
      obtain rfl : ((vF 17) o1) = y11 := (hy11.trans (by rw [nI_clamp (by omega)])).symm
      refine lv_topi (fun y12 hy12 => ?_)
      obtain rfl : (nI m1) = y12 := (hy12.trans (em1)).symm
      refine lv_goto (tgt := 50) hx hb dX12_placeMembers_28 (by decide) ?_
      refine W.widen (k := 0) (n := 0) (by decide +kernel) (by decide +kernel) ?_
      exact W.iret (v := (nI m1)) hx hb hr (fun t9_ ht hW => ⟨⟨(nI m1), m1, rfl, by (try dsimp only); exact ⟨rfl, by omega, MemP.m1 (by omega) em1 hm2⟩, by rw [ht]; exact hP, hD⟩, hS.F ht⟩) hS.2.2 dX12_placeMembers_50
  · have t_4 : ((pl : Nat) : Int) = 0 := toI_nne c_4 (nI_toInt (by omega)) (by decide)
    refine lv_iconst (v := 1) hx hb dX12_placeMembers_7 (by decide) ?_
    refine lv_goto (tgt := 50) hx hb dX12_placeMembers_8 (by decide) ?_
    refine W.widen (k := 0) (n := 0) (by decide +kernel) (by decide +kernel) ?_
    exact W.iret (v := 1) hx hb hr (fun t9_ ht hW => ⟨⟨1, 1, rfl, by (try dsimp only); exact ⟨by decide, by omega, MemP.m0 (by omega)⟩, by rw [ht]; exact hP, hD⟩, hS.F ht⟩) hS.2.2 dX12_placeMembers_50
end
