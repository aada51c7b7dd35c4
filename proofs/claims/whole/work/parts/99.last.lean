theorem mm_last : True := True.intro
